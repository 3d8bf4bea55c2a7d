/-! printed by wip/whole/sym.py: what Run does from one cut point to the next; methods 0 to 78 -/
theorem s1_0 {d : Nat} {a1 : Int32} {σ : PS} : Run false (d + 1) 1 0 [some (.ref 0), some (.int a1)] [] σ =
    aft false (d + 1) 1 4 [some (.ref 0), some (.int a1)] [] (Run false d 43 0 [some (.int a1)] [] σ) := by
  rw [Run_go [4] 3]
  rfl
set_option maxRecDepth 100000 in
theorem s1_4 {d : Nat} {a1 : Int32} {σ : PS} : Run false (d + 1) 1 4 [some (.ref 0), some (.int a1)] [] σ =
    (bif obl (((FI σ 0 0) + a1) ≤ (nI 40)) then some (.inl (some (.int ((FI σ 0 0) + a1)), (wFI σ 0 0 ((FI σ 0 0) + a1)))) else some (.inr (2, thF σ))) := by
  rw [Run_go [4] 16]
  rfl
set_option maxRecDepth 100000 in
theorem s2_0 {d : Nat} {a1 : Int32} {a2 : Int32} {a3 : Int32} {a4 : Int32} {a5 : Int32} {σ : PS} : Run false (d + 1) 2 0 [some (.ref 0), some (.int a1), some (.int a2), some (.int a3), some (.int a4), some (.int a5)] [] σ =
    (bif obl (((FI σ 12 0) + (nI 20)) ≤ (nI 400)) then aft false (d + 1) 2 26 [some (.ref 0), some (.int a1), some (.int a2), some (.int a3), some (.int a4), some (.int a5)] [] (Run false d 131 0 [some (.ref 12), some (.int a1), none] [] σ) else some (.inl (some (.int (-1 : Int32)), σ))) := by
  rw [Run_go [26, 34, 42, 51, 60] 12]
  rfl
theorem s2_26 {d : Nat} {a1 : Int32} {a2 : Int32} {a3 : Int32} {a4 : Int32} {a5 : Int32} {σ : PS} : Run false (d + 1) 2 26 [some (.ref 0), some (.int a1), some (.int a2), some (.int a3), some (.int a4), some (.int a5)] [] σ =
    aft false (d + 1) 2 34 [some (.ref 0), some (.int a1), some (.int a2), some (.int a3), some (.int a4), some (.int a5)] [] (Run false d 131 0 [some (.ref 12), some (.int a2), none] [] σ) := by
  rw [Run_go [26, 34, 42, 51, 60] 5]
  rfl
theorem s2_34 {d : Nat} {a1 : Int32} {a2 : Int32} {a3 : Int32} {a4 : Int32} {a5 : Int32} {σ : PS} : Run false (d + 1) 2 34 [some (.ref 0), some (.int a1), some (.int a2), some (.int a3), some (.int a4), some (.int a5)] [] σ =
    aft false (d + 1) 2 42 [some (.ref 0), some (.int a1), some (.int a2), some (.int a3), some (.int a4), some (.int a5)] [] (Run false d 131 0 [some (.ref 12), some (.int a3), none] [] σ) := by
  rw [Run_go [26, 34, 42, 51, 60] 5]
  rfl
theorem s2_42 {d : Nat} {a1 : Int32} {a2 : Int32} {a3 : Int32} {a4 : Int32} {a5 : Int32} {σ : PS} : Run false (d + 1) 2 42 [some (.ref 0), some (.int a1), some (.int a2), some (.int a3), some (.int a4), some (.int a5)] [] σ =
    aft false (d + 1) 2 51 [some (.ref 0), some (.int a1), some (.int a2), some (.int a3), some (.int a4), some (.int a5)] [] (Run false d 131 0 [some (.ref 12), some (.int a4), none] [] σ) := by
  rw [Run_go [26, 34, 42, 51, 60] 5]
  rfl
theorem s2_51 {d : Nat} {a1 : Int32} {a2 : Int32} {a3 : Int32} {a4 : Int32} {a5 : Int32} {σ : PS} : Run false (d + 1) 2 51 [some (.ref 0), some (.int a1), some (.int a2), some (.int a3), some (.int a4), some (.int a5)] [] σ =
    aft false (d + 1) 2 60 [some (.ref 0), some (.int a1), some (.int a2), some (.int a3), some (.int a4), some (.int a5)] [] (Run false d 131 0 [some (.ref 12), some (.int a5), none] [] σ) := by
  rw [Run_go [26, 34, 42, 51, 60] 5]
  rfl
theorem s2_60 {d : Nat} {a1 : Int32} {a2 : Int32} {a3 : Int32} {a4 : Int32} {a5 : Int32} {σ : PS} : Run false (d + 1) 2 60 [some (.ref 0), some (.int a1), some (.int a2), some (.int a3), some (.int a4), some (.int a5)] [] σ =
    some (.inl (some (.int (FI σ 12 0)), σ)) := by
  rw [Run_go [26, 34, 42, 51, 60] 5]
  rfl
theorem s3_0 {d : Nat} {a1 : Int32} {a2 : Int32} {σ : PS} : Run false (d + 1) 3 0 [some (.ref 0), some (.int a1), some (.int a2), none] [] σ =
    aft false (d + 1) 3 4 [some (.ref 0), some (.int a1), some (.int a2), none] [] (Run false d 43 0 [some (.int a1)] [] σ) := by
  rw [Run_go [4, 9, 28, 38, 56] 3]
  rfl
theorem s3_4 {d : Nat} {a1 : Int32} {a2 : Int32} {z3 : Option Value} {σ : PS} : Run false (d + 1) 3 4 [some (.ref 0), some (.int a1), some (.int a2), z3] [] σ =
    aft false (d + 1) 3 9 [some (.ref 0), some (.int a1), some (.int a2), z3] [] (Run false d 47 0 [some (.ref 0), some (.int a2)] [] σ) := by
  rw [Run_go [4, 9, 28, 38, 56] 4]
  rfl
set_option maxRecDepth 100000 in
theorem s3_9 {d : Nat} {a1 : Int32} {a2 : Int32} {z3 : Option Value} {σ : PS} : Run false (d + 1) 3 9 [some (.ref 0), some (.int a1), some (.int a2), z3] [] σ =
    (bif obl ((FI σ 1 0) < (nI 10)) then aft false (d + 1) 3 38 [some (.ref 0), some (.int a1), some (.int a2), z3] [] (Run false d 133 0 [some (.ref 12), some (.int a2), none] [] σ) else aft false (d + 1) 3 28 [some (.ref 0), some (.int a1), some (.int a2), z3] [] (Run false d 132 0 [some (.ref 12)] [] σ)) := by
  rw [Run_go [4, 9, 28, 38, 56] 10]
  rfl
theorem s3_28 {d : Nat} {a1 : Int32} {a2 : Int32} {z3 : Option Value} {σ : PS} : Run false (d + 1) 3 28 [some (.ref 0), some (.int a1), some (.int a2), z3] [] σ =
    some (.inl (some (.int (-1 : Int32)), σ)) := by
  rw [Run_go [4, 9, 28, 38, 56] 3]
  rfl
set_option maxRecDepth 100000 in
theorem s3_38 {d : Nat} {a1 : Int32} {a2 : Int32} {z3 : Option Value} {r0 : Int32} {σ : PS} : Run false (d + 1) 3 38 [some (.ref 0), some (.int a1), some (.int a2), z3] [.int r0] σ =
    (bif obl (r0 = (nI 0)) then aft false (d + 1) 3 56 [some (.ref 0), some (.int a1), some (.int a2), some (.int r0)] [] (Run false d 97 0 [some (.ref 1), some (.int a1)] [] σ) else some (.inl (some (.int (r0 - (nI 10))), σ))) := by
  rw [Run_go [4, 9, 28, 38, 56] 8]
  rfl
theorem s3_56 {d : Nat} {a1 : Int32} {a2 : Int32} {a3 : Int32} {r0 : Int32} {σ : PS} : Run false (d + 1) 3 56 [some (.ref 0), some (.int a1), some (.int a2), some (.int a3)] [.int r0] σ =
    some (.inl (some (.int r0), σ)) := by
  rw [Run_go [4, 9, 28, 38, 56] 2]
  rfl
theorem s4_0 {d : Nat}  {σ : PS} : Run false (d + 1) 4 0 [some (.ref 0)] [] σ =
    some (.inl (some (.int (FI σ 12 1)), σ)) := by
  rw [Run_go [] 5]
  rfl
theorem s5_0 {d : Nat} {a1 : Int32} {a2 : Int32} {a3 : Int32} {σ : PS} : Run false (d + 1) 5 0 [some (.ref 0), some (.int a1), some (.int a2), some (.int a3)] [] σ =
    aft false (d + 1) 5 4 [some (.ref 0), some (.int a1), some (.int a2), some (.int a3)] [] (Run false d 43 0 [some (.int a1)] [] σ) := by
  rw [Run_go [4, 8, 14, 48, 61, 62, 76, 77, 90, 91, 104, 105, 118, 119, 132] 3]
  rfl
theorem s5_4 {d : Nat} {a1 : Int32} {a2 : Int32} {a3 : Int32} {σ : PS} : Run false (d + 1) 5 4 [some (.ref 0), some (.int a1), some (.int a2), some (.int a3)] [] σ =
    aft false (d + 1) 5 8 [some (.ref 0), some (.int a1), some (.int a2), some (.int a3)] [] (Run false d 44 0 [some (.int a2)] [] σ) := by
  rw [Run_go [4, 8, 14, 48, 61, 62, 76, 77, 90, 91, 104, 105, 118, 119, 132] 3]
  rfl
theorem s5_8 {d : Nat} {a1 : Int32} {a2 : Int32} {a3 : Int32} {σ : PS} : Run false (d + 1) 5 8 [some (.ref 0), some (.int a1), some (.int a2), some (.int a3)] [] σ =
    aft false (d + 1) 5 14 [some (.ref 0), some (.int a1), some (.int a2), some (.int a3)] [] (Run false d 42 0 [some (.int a3), some (.int (nI 0)), some (.int (nI 5))] [] σ) := by
  rw [Run_go [4, 8, 14, 48, 61, 62, 76, 77, 90, 91, 104, 105, 118, 119, 132] 5]
  rfl
theorem s5_14 {d : Nat} {a1 : Int32} {a2 : Int32} {a3 : Int32} {σ : PS} : Run false (d + 1) 5 14 [some (.ref 0), some (.int a1), some (.int a2), some (.int a3)] [] σ =
    Run false (d + 1) 5 (tswF 15 104 0 4 #[33, 47, 62, 76, 90] a3) [some (.ref 0), some (.int a1), some (.int a2), some (.int a3)] [] σ := by
  rw [Run_go [4, 8, 14, 48, 61, 62, 76, 77, 90, 91, 104, 105, 118, 119, 132] 3]
  rfl
set_option maxRecDepth 100000 in
theorem s5_48 {d : Nat} {a1 : Int32} {a2 : Int32} {a3 : Int32} {σ : PS} : Run false (d + 1) 5 48 [some (.ref 0), some (.int a1), some (.int a2), some (.int a3)] [] σ =
    aft false (d + 1) 5 61 [some (.ref 0), some (.int a1), some (.int a2), some (.int a3)] [] (Run false d 100 0 [some (.ref 1), some (.int (nI 211)), some (.int a2), some (.int a1), some (.int (nI 0)), none] [] σ) := by
  rw [Run_go [4, 8, 14, 48, 61, 62, 76, 77, 90, 91, 104, 105, 118, 119, 132] 8]
  rfl
theorem s5_61 {d : Nat} {a1 : Int32} {a2 : Int32} {a3 : Int32} {r0 : Int32} {σ : PS} : Run false (d + 1) 5 61 [some (.ref 0), some (.int a1), some (.int a2), some (.int a3)] [.int r0] σ =
    some (.inl (some (.int r0), σ)) := by
  rw [Run_go [4, 8, 14, 48, 61, 62, 76, 77, 90, 91, 104, 105, 118, 119, 132] 2]
  rfl
set_option maxRecDepth 100000 in
theorem s5_62 {d : Nat} {a1 : Int32} {a2 : Int32} {a3 : Int32} {σ : PS} : Run false (d + 1) 5 62 [some (.ref 0), some (.int a1), some (.int a2), some (.int a3)] [] σ =
    aft false (d + 1) 5 76 [some (.ref 0), some (.int a1), some (.int a2), some (.int a3)] [] (Run false d 100 0 [some (.ref 1), some (.int (nI 212)), some (.int a2), some (.int a1), some (.int (nI 100)), none] [] σ) := by
  rw [Run_go [4, 8, 14, 48, 61, 62, 76, 77, 90, 91, 104, 105, 118, 119, 132] 8]
  rfl
theorem s5_76 {d : Nat} {a1 : Int32} {a2 : Int32} {a3 : Int32} {r0 : Int32} {σ : PS} : Run false (d + 1) 5 76 [some (.ref 0), some (.int a1), some (.int a2), some (.int a3)] [.int r0] σ =
    some (.inl (some (.int r0), σ)) := by
  rw [Run_go [4, 8, 14, 48, 61, 62, 76, 77, 90, 91, 104, 105, 118, 119, 132] 2]
  rfl
set_option maxRecDepth 100000 in
theorem s5_77 {d : Nat} {a1 : Int32} {a2 : Int32} {a3 : Int32} {σ : PS} : Run false (d + 1) 5 77 [some (.ref 0), some (.int a1), some (.int a2), some (.int a3)] [] σ =
    aft false (d + 1) 5 90 [some (.ref 0), some (.int a1), some (.int a2), some (.int a3)] [] (Run false d 100 0 [some (.ref 1), some (.int (nI 213)), some (.int a2), some (.int a1), some (.int (nI 0)), none] [] σ) := by
  rw [Run_go [4, 8, 14, 48, 61, 62, 76, 77, 90, 91, 104, 105, 118, 119, 132] 8]
  rfl
theorem s5_90 {d : Nat} {a1 : Int32} {a2 : Int32} {a3 : Int32} {r0 : Int32} {σ : PS} : Run false (d + 1) 5 90 [some (.ref 0), some (.int a1), some (.int a2), some (.int a3)] [.int r0] σ =
    some (.inl (some (.int r0), σ)) := by
  rw [Run_go [4, 8, 14, 48, 61, 62, 76, 77, 90, 91, 104, 105, 118, 119, 132] 2]
  rfl
set_option maxRecDepth 100000 in
theorem s5_91 {d : Nat} {a1 : Int32} {a2 : Int32} {a3 : Int32} {σ : PS} : Run false (d + 1) 5 91 [some (.ref 0), some (.int a1), some (.int a2), some (.int a3)] [] σ =
    aft false (d + 1) 5 104 [some (.ref 0), some (.int a1), some (.int a2), some (.int a3)] [] (Run false d 100 0 [some (.ref 1), some (.int (nI 215)), some (.int (-1 : Int32)), some (.int a1), some (.int (nI 0)), none] [] σ) := by
  rw [Run_go [4, 8, 14, 48, 61, 62, 76, 77, 90, 91, 104, 105, 118, 119, 132] 8]
  rfl
theorem s5_104 {d : Nat} {a1 : Int32} {a2 : Int32} {a3 : Int32} {r0 : Int32} {σ : PS} : Run false (d + 1) 5 104 [some (.ref 0), some (.int a1), some (.int a2), some (.int a3)] [.int r0] σ =
    some (.inl (some (.int r0), σ)) := by
  rw [Run_go [4, 8, 14, 48, 61, 62, 76, 77, 90, 91, 104, 105, 118, 119, 132] 2]
  rfl
set_option maxRecDepth 100000 in
theorem s5_105 {d : Nat} {a1 : Int32} {a2 : Int32} {a3 : Int32} {σ : PS} : Run false (d + 1) 5 105 [some (.ref 0), some (.int a1), some (.int a2), some (.int a3)] [] σ =
    aft false (d + 1) 5 118 [some (.ref 0), some (.int a1), some (.int a2), some (.int a3)] [] (Run false d 100 0 [some (.ref 1), some (.int (nI 216)), some (.int (-1 : Int32)), some (.int a1), some (.int (nI 1)), none] [] σ) := by
  rw [Run_go [4, 8, 14, 48, 61, 62, 76, 77, 90, 91, 104, 105, 118, 119, 132] 8]
  rfl
theorem s5_118 {d : Nat} {a1 : Int32} {a2 : Int32} {a3 : Int32} {r0 : Int32} {σ : PS} : Run false (d + 1) 5 118 [some (.ref 0), some (.int a1), some (.int a2), some (.int a3)] [.int r0] σ =
    some (.inl (some (.int r0), σ)) := by
  rw [Run_go [4, 8, 14, 48, 61, 62, 76, 77, 90, 91, 104, 105, 118, 119, 132] 2]
  rfl
set_option maxRecDepth 100000 in
theorem s5_119 {d : Nat} {a1 : Int32} {a2 : Int32} {a3 : Int32} {σ : PS} : Run false (d + 1) 5 119 [some (.ref 0), some (.int a1), some (.int a2), some (.int a3)] [] σ =
    aft false (d + 1) 5 132 [some (.ref 0), some (.int a1), some (.int a2), some (.int a3)] [] (Run false d 100 0 [some (.ref 1), some (.int (nI 217)), some (.int (-1 : Int32)), some (.int a1), some (.int (nI 0)), none] [] σ) := by
  rw [Run_go [4, 8, 14, 48, 61, 62, 76, 77, 90, 91, 104, 105, 118, 119, 132] 8]
  rfl
theorem s5_132 {d : Nat} {a1 : Int32} {a2 : Int32} {a3 : Int32} {r0 : Int32} {σ : PS} : Run false (d + 1) 5 132 [some (.ref 0), some (.int a1), some (.int a2), some (.int a3)] [.int r0] σ =
    some (.inl (some (.int r0), σ)) := by
  rw [Run_go [4, 8, 14, 48, 61, 62, 76, 77, 90, 91, 104, 105, 118, 119, 132] 2]
  rfl
theorem s6_0 {d : Nat} {a1 : Int32} {a2 : Int32} {σ : PS} : Run false (d + 1) 6 0 [some (.ref 0), some (.int a1), some (.int a2), none] [] σ =
    aft false (d + 1) 6 4 [some (.ref 0), some (.int a1), some (.int a2), none] [] (Run false d 43 0 [some (.int a1)] [] σ) := by
  rw [Run_go [4, 8, 20] 3]
  rfl
theorem s6_4 {d : Nat} {a1 : Int32} {a2 : Int32} {z3 : Option Value} {σ : PS} : Run false (d + 1) 6 4 [some (.ref 0), some (.int a1), some (.int a2), z3] [] σ =
    aft false (d + 1) 6 8 [some (.ref 0), some (.int a1), some (.int a2), z3] [] (Run false d 44 0 [some (.int a2)] [] σ) := by
  rw [Run_go [4, 8, 20] 3]
  rfl
theorem s6_8 {d : Nat} {a1 : Int32} {a2 : Int32} {z3 : Option Value} {σ : PS} : Run false (d + 1) 6 8 [some (.ref 0), some (.int a1), some (.int a2), z3] [] σ =
    aft false (d + 1) 6 20 [some (.ref 0), some (.int a1), some (.int a2), z3] [] (Run false d 99 0 [some (.ref 1), some (.int (nI 210)), some (.int a2), some (.int a1), none, none, none] [] σ) := by
  rw [Run_go [4, 8, 20] 7]
  rfl
set_option maxRecDepth 100000 in
theorem s6_20 {d : Nat} {a1 : Int32} {a2 : Int32} {z3 : Option Value} {r0 : Int32} {σ : PS} : Run false (d + 1) 6 20 [some (.ref 0), some (.int a1), some (.int a2), z3] [.int r0] σ =
    (bif obl ((nI 0) ≤ r0) then (bif obl ((nI 16) = nI 0) then none else (bif obl ((nI 16) = nI 0) then none else some (.inl (some (.int (((nI 100) * (r0 / (nI 16))) + (r0 - r0 / (nI 16) * (nI 16)))), σ)))) else some (.inl (some (.int (-1 : Int32)), σ))) := by
  rw [Run_go [4, 8, 20] 14]
  rfl
set_option maxRecDepth 100000 in
theorem s7_0 {d : Nat}  {σ : PS} : Run false (d + 1) 7 0 [some (.ref 0)] [] σ =
    (bif obl ((FI σ 0 1) < (nI 10)) then some (.inl (some (.int (((FI σ 0 1) + (nI 1)) - (nI 1))), (wFI σ 0 1 ((FI σ 0 1) + (nI 1))))) else some (.inr (2, thF σ))) := by
  rw [Run_go [] 16]
  rfl
theorem s8_0 {d : Nat} {a1 : Int32} {σ : PS} : Run false (d + 1) 8 0 [some (.ref 0), some (.int a1)] [] σ =
    aft false (d + 1) 8 5 [some (.ref 0), some (.int a1)] [] (Run false d 48 0 [some (.ref 0), some (.int a1)] [] σ) := by
  rw [Run_go [5, 13] 4]
  rfl
theorem s8_5 {d : Nat} {a1 : Int32} {σ : PS} : Run false (d + 1) 8 5 [some (.ref 0), some (.int a1)] [] σ =
    aft false (d + 1) 8 13 [some (.ref 0), some (.int a1)] [] (Run false d 122 0 [some (.ref 17), some (.int a1)] [] σ) := by
  rw [Run_go [5, 13] 5]
  rfl
theorem s8_13 {d : Nat} {a1 : Int32} {r0 : Int32} {σ : PS} : Run false (d + 1) 8 13 [some (.ref 0), some (.int a1)] [.int r0] σ =
    some (.inl (some (.int r0), σ)) := by
  rw [Run_go [5, 13] 2]
  rfl
theorem s9_0 {d : Nat} {a1 : Int32} {a2 : Int32} {a3 : Int32} {a4 : Int32} {a5 : Int32} {a6 : Int32} {a7 : Int32} {σ : PS} : Run false (d + 1) 9 0 [some (.ref 0), some (.int a1), some (.int a2), some (.int a3), some (.int a4), some (.int a5), some (.int a6), some (.int a7), none] [] σ =
    aft false (d + 1) 9 5 [some (.ref 0), some (.int a1), some (.int a2), some (.int a3), some (.int a4), some (.int a5), some (.int a6), some (.int a7), none] [] (Run false d 49 0 [some (.ref 0), some (.int a1)] [] σ) := by
  rw [Run_go [5, 9, 13, 18, 23, 28, 37, 47, 67, 78, 90, 102, 114] 4]
  rfl
theorem s9_5 {d : Nat} {a1 : Int32} {a2 : Int32} {a3 : Int32} {a4 : Int32} {a5 : Int32} {a6 : Int32} {a7 : Int32} {z8 : Option Value} {σ : PS} : Run false (d + 1) 9 5 [some (.ref 0), some (.int a1), some (.int a2), some (.int a3), some (.int a4), some (.int a5), some (.int a6), some (.int a7), z8] [] σ =
    aft false (d + 1) 9 9 [some (.ref 0), some (.int a1), some (.int a2), some (.int a3), some (.int a4), some (.int a5), some (.int a6), some (.int a7), z8] [] (Run false d 45 0 [some (.int a2)] [] σ) := by
  rw [Run_go [5, 9, 13, 18, 23, 28, 37, 47, 67, 78, 90, 102, 114] 3]
  rfl
theorem s9_9 {d : Nat} {a1 : Int32} {a2 : Int32} {a3 : Int32} {a4 : Int32} {a5 : Int32} {a6 : Int32} {a7 : Int32} {z8 : Option Value} {σ : PS} : Run false (d + 1) 9 9 [some (.ref 0), some (.int a1), some (.int a2), some (.int a3), some (.int a4), some (.int a5), some (.int a6), some (.int a7), z8] [] σ =
    aft false (d + 1) 9 13 [some (.ref 0), some (.int a1), some (.int a2), some (.int a3), some (.int a4), some (.int a5), some (.int a6), some (.int a7), z8] [] (Run false d 45 0 [some (.int a3)] [] σ) := by
  rw [Run_go [5, 9, 13, 18, 23, 28, 37, 47, 67, 78, 90, 102, 114] 3]
  rfl
theorem s9_13 {d : Nat} {a1 : Int32} {a2 : Int32} {a3 : Int32} {a4 : Int32} {a5 : Int32} {a6 : Int32} {a7 : Int32} {z8 : Option Value} {σ : PS} : Run false (d + 1) 9 13 [some (.ref 0), some (.int a1), some (.int a2), some (.int a3), some (.int a4), some (.int a5), some (.int a6), some (.int a7), z8] [] σ =
    aft false (d + 1) 9 18 [some (.ref 0), some (.int a1), some (.int a2), some (.int a3), some (.int a4), some (.int a5), some (.int a6), some (.int a7), z8] [] (Run false d 45 0 [some (.int a4)] [] σ) := by
  rw [Run_go [5, 9, 13, 18, 23, 28, 37, 47, 67, 78, 90, 102, 114] 3]
  rfl
theorem s9_18 {d : Nat} {a1 : Int32} {a2 : Int32} {a3 : Int32} {a4 : Int32} {a5 : Int32} {a6 : Int32} {a7 : Int32} {z8 : Option Value} {σ : PS} : Run false (d + 1) 9 18 [some (.ref 0), some (.int a1), some (.int a2), some (.int a3), some (.int a4), some (.int a5), some (.int a6), some (.int a7), z8] [] σ =
    aft false (d + 1) 9 23 [some (.ref 0), some (.int a1), some (.int a2), some (.int a3), some (.int a4), some (.int a5), some (.int a6), some (.int a7), z8] [] (Run false d 45 0 [some (.int a5)] [] σ) := by
  rw [Run_go [5, 9, 13, 18, 23, 28, 37, 47, 67, 78, 90, 102, 114] 3]
  rfl
theorem s9_23 {d : Nat} {a1 : Int32} {a2 : Int32} {a3 : Int32} {a4 : Int32} {a5 : Int32} {a6 : Int32} {a7 : Int32} {z8 : Option Value} {σ : PS} : Run false (d + 1) 9 23 [some (.ref 0), some (.int a1), some (.int a2), some (.int a3), some (.int a4), some (.int a5), some (.int a6), some (.int a7), z8] [] σ =
    aft false (d + 1) 9 28 [some (.ref 0), some (.int a1), some (.int a2), some (.int a3), some (.int a4), some (.int a5), some (.int a6), some (.int a7), z8] [] (Run false d 45 0 [some (.int a6)] [] σ) := by
  rw [Run_go [5, 9, 13, 18, 23, 28, 37, 47, 67, 78, 90, 102, 114] 3]
  rfl
theorem s9_28 {d : Nat} {a1 : Int32} {a2 : Int32} {a3 : Int32} {a4 : Int32} {a5 : Int32} {a6 : Int32} {a7 : Int32} {z8 : Option Value} {σ : PS} : Run false (d + 1) 9 28 [some (.ref 0), some (.int a1), some (.int a2), some (.int a3), some (.int a4), some (.int a5), some (.int a6), some (.int a7), z8] [] σ =
    aft false (d + 1) 9 37 [some (.ref 0), some (.int a1), some (.int a2), some (.int a3), some (.int a4), some (.int a5), some (.int a6), some (.int a7), z8] [] (Run false d 42 0 [some (.int a7), some (.int (nI 0)), some (.int (nI 1000))] [] σ) := by
  rw [Run_go [5, 9, 13, 18, 23, 28, 37, 47, 67, 78, 90, 102, 114] 5]
  rfl
theorem s9_37 {d : Nat} {a1 : Int32} {a2 : Int32} {a3 : Int32} {a4 : Int32} {a5 : Int32} {a6 : Int32} {a7 : Int32} {z8 : Option Value} {σ : PS} : Run false (d + 1) 9 37 [some (.ref 0), some (.int a1), some (.int a2), some (.int a3), some (.int a4), some (.int a5), some (.int a6), some (.int a7), z8] [] σ =
    aft false (d + 1) 9 47 [some (.ref 0), some (.int a1), some (.int a2), some (.int a3), some (.int a4), some (.int a5), some (.int a6), some (.int a7), z8] [] (Run false d 123 0 [some (.ref 17), some (.int a1), some (.int a7), none] [] σ) := by
  rw [Run_go [5, 9, 13, 18, 23, 28, 37, 47, 67, 78, 90, 102, 114] 6]
  rfl
set_option maxRecDepth 100000 in
theorem s9_47 {d : Nat} {a1 : Int32} {a2 : Int32} {a3 : Int32} {a4 : Int32} {a5 : Int32} {a6 : Int32} {a7 : Int32} {z8 : Option Value} {r0 : Int32} {σ : PS} : Run false (d + 1) 9 47 [some (.ref 0), some (.int a1), some (.int a2), some (.int a3), some (.int a4), some (.int a5), some (.int a6), some (.int a7), z8] [.int r0] σ =
    (bif obl ((nI 0) ≤ r0) then aft false (d + 1) 9 67 [some (.ref 0), some (.int a1), some (.int a2), some (.int a3), some (.int a4), some (.int a5), some (.int a6), some (.int a7), some (.int r0)] [] (Run false d 124 0 [some (.ref 17), some (.int r0), some (.int (nI 0)), some (.int a2)] [] σ) else some (.inl (some (.int (-1 : Int32)), σ))) := by
  rw [Run_go [5, 9, 13, 18, 23, 28, 37, 47, 67, 78, 90, 102, 114] 10]
  rfl
theorem s9_67 {d : Nat} {a1 : Int32} {a2 : Int32} {a3 : Int32} {a4 : Int32} {a5 : Int32} {a6 : Int32} {a7 : Int32} {a8 : Int32} {σ : PS} : Run false (d + 1) 9 67 [some (.ref 0), some (.int a1), some (.int a2), some (.int a3), some (.int a4), some (.int a5), some (.int a6), some (.int a7), some (.int a8)] [] σ =
    aft false (d + 1) 9 78 [some (.ref 0), some (.int a1), some (.int a2), some (.int a3), some (.int a4), some (.int a5), some (.int a6), some (.int a7), some (.int a8)] [] (Run false d 124 0 [some (.ref 17), some (.int a8), some (.int (nI 1)), some (.int a3)] [] σ) := by
  rw [Run_go [5, 9, 13, 18, 23, 28, 37, 47, 67, 78, 90, 102, 114] 7]
  rfl
theorem s9_78 {d : Nat} {a1 : Int32} {a2 : Int32} {a3 : Int32} {a4 : Int32} {a5 : Int32} {a6 : Int32} {a7 : Int32} {a8 : Int32} {σ : PS} : Run false (d + 1) 9 78 [some (.ref 0), some (.int a1), some (.int a2), some (.int a3), some (.int a4), some (.int a5), some (.int a6), some (.int a7), some (.int a8)] [] σ =
    aft false (d + 1) 9 90 [some (.ref 0), some (.int a1), some (.int a2), some (.int a3), some (.int a4), some (.int a5), some (.int a6), some (.int a7), some (.int a8)] [] (Run false d 124 0 [some (.ref 17), some (.int a8), some (.int (nI 2)), some (.int a4)] [] σ) := by
  rw [Run_go [5, 9, 13, 18, 23, 28, 37, 47, 67, 78, 90, 102, 114] 7]
  rfl
theorem s9_90 {d : Nat} {a1 : Int32} {a2 : Int32} {a3 : Int32} {a4 : Int32} {a5 : Int32} {a6 : Int32} {a7 : Int32} {a8 : Int32} {σ : PS} : Run false (d + 1) 9 90 [some (.ref 0), some (.int a1), some (.int a2), some (.int a3), some (.int a4), some (.int a5), some (.int a6), some (.int a7), some (.int a8)] [] σ =
    aft false (d + 1) 9 102 [some (.ref 0), some (.int a1), some (.int a2), some (.int a3), some (.int a4), some (.int a5), some (.int a6), some (.int a7), some (.int a8)] [] (Run false d 124 0 [some (.ref 17), some (.int a8), some (.int (nI 3)), some (.int a5)] [] σ) := by
  rw [Run_go [5, 9, 13, 18, 23, 28, 37, 47, 67, 78, 90, 102, 114] 7]
  rfl
theorem s9_102 {d : Nat} {a1 : Int32} {a2 : Int32} {a3 : Int32} {a4 : Int32} {a5 : Int32} {a6 : Int32} {a7 : Int32} {a8 : Int32} {σ : PS} : Run false (d + 1) 9 102 [some (.ref 0), some (.int a1), some (.int a2), some (.int a3), some (.int a4), some (.int a5), some (.int a6), some (.int a7), some (.int a8)] [] σ =
    aft false (d + 1) 9 114 [some (.ref 0), some (.int a1), some (.int a2), some (.int a3), some (.int a4), some (.int a5), some (.int a6), some (.int a7), some (.int a8)] [] (Run false d 124 0 [some (.ref 17), some (.int a8), some (.int (nI 4)), some (.int a6)] [] σ) := by
  rw [Run_go [5, 9, 13, 18, 23, 28, 37, 47, 67, 78, 90, 102, 114] 7]
  rfl
theorem s9_114 {d : Nat} {a1 : Int32} {a2 : Int32} {a3 : Int32} {a4 : Int32} {a5 : Int32} {a6 : Int32} {a7 : Int32} {a8 : Int32} {σ : PS} : Run false (d + 1) 9 114 [some (.ref 0), some (.int a1), some (.int a2), some (.int a3), some (.int a4), some (.int a5), some (.int a6), some (.int a7), some (.int a8)] [] σ =
    (bif obl ((nI 5) = nI 0) then none else some (.inl (some (.int (a8 - a8 / (nI 5) * (nI 5))), σ))) := by
  rw [Run_go [5, 9, 13, 18, 23, 28, 37, 47, 67, 78, 90, 102, 114] 5]
  rfl
theorem s10_0 {d : Nat} {a1 : Int32} {a2 : Int32} {σ : PS} : Run false (d + 1) 10 0 [some (.ref 0), some (.int a1), some (.int a2), none] [] σ =
    aft false (d + 1) 10 5 [some (.ref 0), some (.int a1), some (.int a2), none] [] (Run false d 49 0 [some (.ref 0), some (.int a1)] [] σ) := by
  rw [Run_go [5, 11] 4]
  rfl
theorem s10_5 {d : Nat} {a1 : Int32} {a2 : Int32} {z3 : Option Value} {σ : PS} : Run false (d + 1) 10 5 [some (.ref 0), some (.int a1), some (.int a2), z3] [] σ =
    aft false (d + 1) 10 11 [some (.ref 0), some (.int a1), some (.int a2), z3] [] (Run false d 50 0 [some (.ref 0), some (.int a1), some (.int a2)] [] σ) := by
  rw [Run_go [5, 11] 5]
  rfl
set_option maxRecDepth 100000 in
theorem s10_11 {d : Nat} {a1 : Int32} {a2 : Int32} {z3 : Option Value} {σ : PS} : Run false (d + 1) 10 11 [some (.ref 0), some (.int a1), some (.int a2), z3] [] σ =
    (bif inb a1 20 then (bif inb a1 20 then some (.inl (some (.int (AI σ 20 a1.toNatClampNeg)), (wAI σ 20 a1.toNatClampNeg a2))) else none) else none) := by
  rw [Run_go [5, 11] 15]
  rfl
theorem s11_0 {d : Nat} {a1 : Int32} {a2 : Int32} {a3 : Int32} {a4 : Int32} {a5 : Int32} {σ : PS} : Run false (d + 1) 11 0 [some (.ref 0), some (.int a1), some (.int a2), some (.int a3), some (.int a4), some (.int a5), none, none] [] σ =
    aft false (d + 1) 11 5 [some (.ref 0), some (.int a1), some (.int a2), some (.int a3), some (.int a4), some (.int a5), none, none] [] (Run false d 49 0 [some (.ref 0), some (.int a1)] [] σ) := by
  rw [Run_go [5, 9, 17, 24, 32] 4]
  rfl
theorem s11_5 {d : Nat} {a1 : Int32} {a2 : Int32} {a3 : Int32} {a4 : Int32} {a5 : Int32} {z6 : Option Value} {z7 : Option Value} {σ : PS} : Run false (d + 1) 11 5 [some (.ref 0), some (.int a1), some (.int a2), some (.int a3), some (.int a4), some (.int a5), z6, z7] [] σ =
    aft false (d + 1) 11 9 [some (.ref 0), some (.int a1), some (.int a2), some (.int a3), some (.int a4), some (.int a5), z6, z7] [] (Run false d 43 0 [some (.int a2)] [] σ) := by
  rw [Run_go [5, 9, 17, 24, 32] 3]
  rfl
theorem s11_9 {d : Nat} {a1 : Int32} {a2 : Int32} {a3 : Int32} {a4 : Int32} {a5 : Int32} {z6 : Option Value} {z7 : Option Value} {σ : PS} : Run false (d + 1) 11 9 [some (.ref 0), some (.int a1), some (.int a2), some (.int a3), some (.int a4), some (.int a5), z6, z7] [] σ =
    aft false (d + 1) 11 17 [some (.ref 0), some (.int a1), some (.int a2), some (.int a3), some (.int a4), some (.int a5), z6, z7] [] (Run false d 42 0 [some (.int a3), some (.int (nI 0)), some (.int (nI 1000))] [] σ) := by
  rw [Run_go [5, 9, 17, 24, 32] 5]
  rfl
theorem s11_17 {d : Nat} {a1 : Int32} {a2 : Int32} {a3 : Int32} {a4 : Int32} {a5 : Int32} {z6 : Option Value} {z7 : Option Value} {σ : PS} : Run false (d + 1) 11 17 [some (.ref 0), some (.int a1), some (.int a2), some (.int a3), some (.int a4), some (.int a5), z6, z7] [] σ =
    aft false (d + 1) 11 24 [some (.ref 0), some (.int a1), some (.int a2), some (.int a3), some (.int a4), some (.int a5), z6, z7] [] (Run false d 42 0 [some (.int a4), some (.int (nI 0)), some (.int a3)] [] σ) := by
  rw [Run_go [5, 9, 17, 24, 32] 5]
  rfl
theorem s11_24 {d : Nat} {a1 : Int32} {a2 : Int32} {a3 : Int32} {a4 : Int32} {a5 : Int32} {z6 : Option Value} {z7 : Option Value} {σ : PS} : Run false (d + 1) 11 24 [some (.ref 0), some (.int a1), some (.int a2), some (.int a3), some (.int a4), some (.int a5), z6, z7] [] σ =
    aft false (d + 1) 11 32 [some (.ref 0), some (.int a1), some (.int a2), some (.int a3), some (.int a4), some (.int a5), z6, z7] [] (Run false d 42 0 [some (.int a5), some (.int (nI 1)), some (.int (nI 50))] [] σ) := by
  rw [Run_go [5, 9, 17, 24, 32] 5]
  rfl
set_option maxRecDepth 100000 in
theorem s11_32 {d : Nat} {a1 : Int32} {a2 : Int32} {a3 : Int32} {a4 : Int32} {a5 : Int32} {z6 : Option Value} {z7 : Option Value} {σ : PS} : Run false (d + 1) 11 32 [some (.ref 0), some (.int a1), some (.int a2), some (.int a3), some (.int a4), some (.int a5), z6, z7] [] σ =
    (bif inb ((a1 * (nI 41)) + a2) 820 then (bif inb ((a1 * (nI 41)) + a2) 820 then (bif inb ((a1 * (nI 41)) + a2) 820 then (bif inb ((a1 * (nI 41)) + a2) 820 then some (.inl (some (.int (AI σ 21 ((a1 * (nI 41)) + a2).toNatClampNeg)), (wAI (wAI (wAI σ 21 ((a1 * (nI 41)) + a2).toNatClampNeg a3) 22 ((a1 * (nI 41)) + a2).toNatClampNeg a4) 23 ((a1 * (nI 41)) + a2).toNatClampNeg a5))) else none) else none) else none) else none) := by
  rw [Run_go [5, 9, 17, 24, 32] 33]
  rfl
theorem s12_0 {d : Nat} {a1 : Int32} {a2 : Int32} {a3 : Int32} {σ : PS} : Run false (d + 1) 12 0 [some (.ref 0), some (.int a1), some (.int a2), some (.int a3)] [] σ =
    aft false (d + 1) 12 5 [some (.ref 0), some (.int a1), some (.int a2), some (.int a3)] [] (Run false d 49 0 [some (.ref 0), some (.int a1)] [] σ) := by
  rw [Run_go [5, 9, 13, 22, 27] 4]
  rfl
theorem s12_5 {d : Nat} {a1 : Int32} {a2 : Int32} {a3 : Int32} {σ : PS} : Run false (d + 1) 12 5 [some (.ref 0), some (.int a1), some (.int a2), some (.int a3)] [] σ =
    aft false (d + 1) 12 9 [some (.ref 0), some (.int a1), some (.int a2), some (.int a3)] [] (Run false d 44 0 [some (.int a2)] [] σ) := by
  rw [Run_go [5, 9, 13, 22, 27] 3]
  rfl
theorem s12_9 {d : Nat} {a1 : Int32} {a2 : Int32} {a3 : Int32} {σ : PS} : Run false (d + 1) 12 9 [some (.ref 0), some (.int a1), some (.int a2), some (.int a3)] [] σ =
    aft false (d + 1) 12 13 [some (.ref 0), some (.int a1), some (.int a2), some (.int a3)] [] (Run false d 43 0 [some (.int a3)] [] σ) := by
  rw [Run_go [5, 9, 13, 22, 27] 3]
  rfl
theorem s12_13 {d : Nat} {a1 : Int32} {a2 : Int32} {a3 : Int32} {σ : PS} : Run false (d + 1) 12 13 [some (.ref 0), some (.int a1), some (.int a2), some (.int a3)] [] σ =
    aft false (d + 1) 12 22 [some (.ref 0), some (.int a1), some (.int a2), some (.int a3)] [.ref 0] (Run false d 127 0 [some (.ref 17), some (.int a1)] [] σ) := by
  rw [Run_go [5, 9, 13, 22, 27] 6]
  rfl
theorem s12_22 {d : Nat} {a1 : Int32} {a2 : Int32} {a3 : Int32} {r1 : Int32} {σ : PS} : Run false (d + 1) 12 22 [some (.ref 0), some (.int a1), some (.int a2), some (.int a3)] [.int r1, .ref 0] σ =
    aft false (d + 1) 12 27 [some (.ref 0), some (.int a1), some (.int a2), some (.int a3)] [] (Run false d 54 0 [some (.ref 0), some (.int r1), some (.int a2), some (.int a3), none, none] [] σ) := by
  rw [Run_go [5, 9, 13, 22, 27] 4]
  rfl
theorem s12_27 {d : Nat} {a1 : Int32} {a2 : Int32} {a3 : Int32} {r0 : Int32} {σ : PS} : Run false (d + 1) 12 27 [some (.ref 0), some (.int a1), some (.int a2), some (.int a3)] [.int r0] σ =
    some (.inl (some (.int r0), σ)) := by
  rw [Run_go [5, 9, 13, 22, 27] 2]
  rfl
theorem s13_0 {d : Nat} {a1 : Int32} {a2 : Int32} {a3 : Int32} {σ : PS} : Run false (d + 1) 13 0 [some (.ref 0), some (.int a1), some (.int a2), some (.int a3), none, none] [] σ =
    aft false (d + 1) 13 5 [some (.ref 0), some (.int a1), some (.int a2), some (.int a3), none, none] [] (Run false d 48 0 [some (.ref 0), some (.int a1)] [] σ) := by
  rw [Run_go [5, 9, 13, 19, 57, 62] 4]
  rfl
theorem s13_5 {d : Nat} {a1 : Int32} {a2 : Int32} {a3 : Int32} {z4 : Option Value} {z5 : Option Value} {σ : PS} : Run false (d + 1) 13 5 [some (.ref 0), some (.int a1), some (.int a2), some (.int a3), z4, z5] [] σ =
    aft false (d + 1) 13 9 [some (.ref 0), some (.int a1), some (.int a2), some (.int a3), z4, z5] [] (Run false d 44 0 [some (.int a2)] [] σ) := by
  rw [Run_go [5, 9, 13, 19, 57, 62] 3]
  rfl
theorem s13_9 {d : Nat} {a1 : Int32} {a2 : Int32} {a3 : Int32} {z4 : Option Value} {z5 : Option Value} {σ : PS} : Run false (d + 1) 13 9 [some (.ref 0), some (.int a1), some (.int a2), some (.int a3), z4, z5] [] σ =
    aft false (d + 1) 13 13 [some (.ref 0), some (.int a1), some (.int a2), some (.int a3), z4, z5] [] (Run false d 43 0 [some (.int a3)] [] σ) := by
  rw [Run_go [5, 9, 13, 19, 57, 62] 3]
  rfl
theorem s13_13 {d : Nat} {a1 : Int32} {a2 : Int32} {a3 : Int32} {z4 : Option Value} {z5 : Option Value} {σ : PS} : Run false (d + 1) 13 13 [some (.ref 0), some (.int a1), some (.int a2), some (.int a3), z4, z5] [] σ =
    Run false (d + 1) 13 19 [some (.ref 0), some (.int a1), some (.int a2), some (.int a3), some (.int (nI 0)), some (.int (nI 0))] [] σ := by
  rw [Run_go [5, 9, 13, 19, 57, 62] 5]
  rfl
set_option maxRecDepth 100000 in
theorem s13_19 {d : Nat} {a1 : Int32} {a2 : Int32} {a3 : Int32} {a4 : Int32} {a5 : Int32} {σ : PS} : Run false (d + 1) 13 19 [some (.ref 0), some (.int a1), some (.int a2), some (.int a3), some (.int a4), some (.int a5)] [] σ =
    (bif obl ((FI σ 17 0) ≤ a5) then some (.inl (some (.int a4), σ)) else (bif inb a5 20 then (bif obl ((AI σ 18 a5.toNatClampNeg) = a1) then aft false (d + 1) 13 57 [some (.ref 0), some (.int a1), some (.int a2), some (.int a3), some (.int a4), some (.int a5)] [.ref 0, .int a4] (Run false d 127 0 [some (.ref 17), some (.int a5)] [] σ) else Run false (d + 1) 13 19 [some (.ref 0), some (.int a1), some (.int a2), some (.int a3), some (.int a4), some (.int (a5 + (nI 1)))] [] σ) else none)) := by
  rw [Run_go [5, 9, 13, 19, 57, 62] 19]
  rfl
theorem s13_57 {d : Nat} {a1 : Int32} {a2 : Int32} {a3 : Int32} {a4 : Int32} {a5 : Int32} {r0 : Int32} {r2 : Int32} {σ : PS} : Run false (d + 1) 13 57 [some (.ref 0), some (.int a1), some (.int a2), some (.int a3), some (.int a4), some (.int a5)] [.int r2, .ref 0, .int r0] σ =
    aft false (d + 1) 13 62 [some (.ref 0), some (.int a1), some (.int a2), some (.int a3), some (.int a4), some (.int a5)] [.int r0] (Run false d 54 0 [some (.ref 0), some (.int r2), some (.int a2), some (.int a3), none, none] [] σ) := by
  rw [Run_go [5, 9, 13, 19, 57, 62] 4]
  rfl
theorem s13_62 {d : Nat} {a1 : Int32} {a2 : Int32} {a3 : Int32} {a4 : Int32} {a5 : Int32} {r0 : Int32} {r1 : Int32} {σ : PS} : Run false (d + 1) 13 62 [some (.ref 0), some (.int a1), some (.int a2), some (.int a3), some (.int a4), some (.int a5)] [.int r1, .int r0] σ =
    Run false (d + 1) 13 19 [some (.ref 0), some (.int a1), some (.int a2), some (.int a3), some (.int (r0 + r1)), some (.int (a5 + (nI 1)))] [] σ := by
  rw [Run_go [5, 9, 13, 19, 57, 62] 5]
  rfl
theorem s14_0 {d : Nat} {a1 : Int32} {a2 : Int32} {a3 : Int32} {a4 : Int32} {σ : PS} : Run false (d + 1) 14 0 [some (.ref 0), some (.int a1), some (.int a2), some (.int a3), some (.int a4)] [] σ =
    aft false (d + 1) 14 5 [some (.ref 0), some (.int a1), some (.int a2), some (.int a3), some (.int a4)] [] (Run false d 48 0 [some (.ref 0), some (.int a1)] [] σ) := by
  rw [Run_go [5, 9, 18, 26, 45] 4]
  rfl
theorem s14_5 {d : Nat} {a1 : Int32} {a2 : Int32} {a3 : Int32} {a4 : Int32} {σ : PS} : Run false (d + 1) 14 5 [some (.ref 0), some (.int a1), some (.int a2), some (.int a3), some (.int a4)] [] σ =
    aft false (d + 1) 14 9 [some (.ref 0), some (.int a1), some (.int a2), some (.int a3), some (.int a4)] [] (Run false d 44 0 [some (.int a2)] [] σ) := by
  rw [Run_go [5, 9, 18, 26, 45] 3]
  rfl
theorem s14_9 {d : Nat} {a1 : Int32} {a2 : Int32} {a3 : Int32} {a4 : Int32} {σ : PS} : Run false (d + 1) 14 9 [some (.ref 0), some (.int a1), some (.int a2), some (.int a3), some (.int a4)] [] σ =
    aft false (d + 1) 14 18 [some (.ref 0), some (.int a1), some (.int a2), some (.int a3), some (.int a4)] [] (Run false d 42 0 [some (.int a3), some (.int (nI 0)), some (.int (FI σ 0 0))] [] σ) := by
  rw [Run_go [5, 9, 18, 26, 45] 6]
  rfl
theorem s14_18 {d : Nat} {a1 : Int32} {a2 : Int32} {a3 : Int32} {a4 : Int32} {σ : PS} : Run false (d + 1) 14 18 [some (.ref 0), some (.int a1), some (.int a2), some (.int a3), some (.int a4)] [] σ =
    aft false (d + 1) 14 26 [some (.ref 0), some (.int a1), some (.int a2), some (.int a3), some (.int a4)] [] (Run false d 42 0 [some (.int a4), some (.int (nI 0)), some (.int (nI 10000000))] [] σ) := by
  rw [Run_go [5, 9, 18, 26, 45] 5]
  rfl
set_option maxRecDepth 100000 in
theorem s14_26 {d : Nat} {a1 : Int32} {a2 : Int32} {a3 : Int32} {a4 : Int32} {σ : PS} : Run false (d + 1) 14 26 [some (.ref 0), some (.int a1), some (.int a2), some (.int a3), some (.int a4)] [] σ =
    aft false (d + 1) 14 45 [some (.ref 0), some (.int a1), some (.int a2), some (.int a3), some (.int a4)] [] (Run false d 77 0 [some (.ref 26), some (.int ((a1 * (nI 5)) + a2)), some (.int a3), some (.int a4), some (.int (FI σ 0 0))] [] σ) := by
  rw [Run_go [5, 9, 18, 26, 45] 13]
  rfl
theorem s14_45 {d : Nat} {a1 : Int32} {a2 : Int32} {a3 : Int32} {a4 : Int32} {r0 : Int32} {σ : PS} : Run false (d + 1) 14 45 [some (.ref 0), some (.int a1), some (.int a2), some (.int a3), some (.int a4)] [.int r0] σ =
    some (.inl (some (.int r0), σ)) := by
  rw [Run_go [5, 9, 18, 26, 45] 2]
  rfl
theorem s15_0 {d : Nat} {a1 : Int32} {a2 : Int32} {a3 : Int32} {a4 : Int32} {σ : PS} : Run false (d + 1) 15 0 [some (.ref 0), some (.int a1), some (.int a2), some (.int a3), some (.int a4)] [] σ =
    aft false (d + 1) 15 5 [some (.ref 0), some (.int a1), some (.int a2), some (.int a3), some (.int a4)] [] (Run false d 48 0 [some (.ref 0), some (.int a1)] [] σ) := by
  rw [Run_go [5, 9, 13, 20, 29] 4]
  rfl
theorem s15_5 {d : Nat} {a1 : Int32} {a2 : Int32} {a3 : Int32} {a4 : Int32} {σ : PS} : Run false (d + 1) 15 5 [some (.ref 0), some (.int a1), some (.int a2), some (.int a3), some (.int a4)] [] σ =
    aft false (d + 1) 15 9 [some (.ref 0), some (.int a1), some (.int a2), some (.int a3), some (.int a4)] [] (Run false d 44 0 [some (.int a2)] [] σ) := by
  rw [Run_go [5, 9, 13, 20, 29] 3]
  rfl
theorem s15_9 {d : Nat} {a1 : Int32} {a2 : Int32} {a3 : Int32} {a4 : Int32} {σ : PS} : Run false (d + 1) 15 9 [some (.ref 0), some (.int a1), some (.int a2), some (.int a3), some (.int a4)] [] σ =
    aft false (d + 1) 15 13 [some (.ref 0), some (.int a1), some (.int a2), some (.int a3), some (.int a4)] [] (Run false d 43 0 [some (.int a3)] [] σ) := by
  rw [Run_go [5, 9, 13, 20, 29] 3]
  rfl
theorem s15_13 {d : Nat} {a1 : Int32} {a2 : Int32} {a3 : Int32} {a4 : Int32} {σ : PS} : Run false (d + 1) 15 13 [some (.ref 0), some (.int a1), some (.int a2), some (.int a3), some (.int a4)] [] σ =
    aft false (d + 1) 15 20 [some (.ref 0), some (.int a1), some (.int a2), some (.int a3), some (.int a4)] [] (Run false d 55 0 [some (.ref 0), some (.int a3), some (.int a4), none, none] [] σ) := by
  rw [Run_go [5, 9, 13, 20, 29] 5]
  rfl
theorem s15_20 {d : Nat} {a1 : Int32} {a2 : Int32} {a3 : Int32} {a4 : Int32} {σ : PS} : Run false (d + 1) 15 20 [some (.ref 0), some (.int a1), some (.int a2), some (.int a3), some (.int a4)] [] σ =
    aft false (d + 1) 15 29 [some (.ref 0), some (.int a1), some (.int a2), some (.int a3), some (.int a4)] [] (Run false d 83 0 [some (.ref 36), some (.int a1), some (.int a2)] [] σ) := by
  rw [Run_go [5, 9, 13, 20, 29] 6]
  rfl
theorem s15_29 {d : Nat} {a1 : Int32} {a2 : Int32} {a3 : Int32} {a4 : Int32} {r0 : Int32} {σ : PS} : Run false (d + 1) 15 29 [some (.ref 0), some (.int a1), some (.int a2), some (.int a3), some (.int a4)] [.int r0] σ =
    some (.inl (some (.int r0), σ)) := by
  rw [Run_go [5, 9, 13, 20, 29] 2]
  rfl
theorem s16_0 {d : Nat} {a1 : Int32} {a2 : Int32} {a3 : Int32} {σ : PS} : Run false (d + 1) 16 0 [some (.ref 0), some (.int a1), some (.int a2), some (.int a3)] [] σ =
    aft false (d + 1) 16 5 [some (.ref 0), some (.int a1), some (.int a2), some (.int a3)] [] (Run false d 48 0 [some (.ref 0), some (.int a1)] [] σ) := by
  rw [Run_go [5, 9, 15] 4]
  rfl
theorem s16_5 {d : Nat} {a1 : Int32} {a2 : Int32} {a3 : Int32} {σ : PS} : Run false (d + 1) 16 5 [some (.ref 0), some (.int a1), some (.int a2), some (.int a3)] [] σ =
    aft false (d + 1) 16 9 [some (.ref 0), some (.int a1), some (.int a2), some (.int a3)] [] (Run false d 43 0 [some (.int a2)] [] σ) := by
  rw [Run_go [5, 9, 15] 3]
  rfl
theorem s16_9 {d : Nat} {a1 : Int32} {a2 : Int32} {a3 : Int32} {σ : PS} : Run false (d + 1) 16 9 [some (.ref 0), some (.int a1), some (.int a2), some (.int a3)] [] σ =
    aft false (d + 1) 16 15 [some (.ref 0), some (.int a1), some (.int a2), some (.int a3)] [] (Run false d 55 0 [some (.ref 0), some (.int a2), some (.int a3), none, none] [] σ) := by
  rw [Run_go [5, 9, 15] 5]
  rfl
theorem s16_15 {d : Nat} {a1 : Int32} {a2 : Int32} {a3 : Int32} {σ : PS} : Run false (d + 1) 16 15 [some (.ref 0), some (.int a1), some (.int a2), some (.int a3)] [] σ =
    (bif inb a1 10 then (bif is01 (AI σ 38 a1.toNatClampNeg) then some (.inl (some (.int (AI σ 38 a1.toNatClampNeg)), σ)) else none) else none) := by
  rw [Run_go [5, 9, 15] 7]
  rfl
theorem s17_0 {d : Nat} {a1 : Int32} {a2 : Int32} {a3 : Int32} {σ : PS} : Run false (d + 1) 17 0 [some (.ref 0), some (.int a1), some (.int a2), some (.int a3)] [] σ =
    aft false (d + 1) 17 5 [some (.ref 0), some (.int a1), some (.int a2), some (.int a3)] [] (Run false d 48 0 [some (.ref 0), some (.int a1)] [] σ) := by
  rw [Run_go [5, 9, 16] 4]
  rfl
theorem s17_5 {d : Nat} {a1 : Int32} {a2 : Int32} {a3 : Int32} {σ : PS} : Run false (d + 1) 17 5 [some (.ref 0), some (.int a1), some (.int a2), some (.int a3)] [] σ =
    aft false (d + 1) 17 9 [some (.ref 0), some (.int a1), some (.int a2), some (.int a3)] [] (Run false d 43 0 [some (.int a2)] [] σ) := by
  rw [Run_go [5, 9, 16] 3]
  rfl
theorem s17_9 {d : Nat} {a1 : Int32} {a2 : Int32} {a3 : Int32} {σ : PS} : Run false (d + 1) 17 9 [some (.ref 0), some (.int a1), some (.int a2), some (.int a3)] [] σ =
    aft false (d + 1) 17 16 [some (.ref 0), some (.int a1), some (.int a2), some (.int a3)] [] (Run false d 56 0 [some (.ref 0), some (.int a1), some (.int a2), some (.int a3), none] [] σ) := by
  rw [Run_go [5, 9, 16] 6]
  rfl
theorem s17_16 {d : Nat} {a1 : Int32} {a2 : Int32} {a3 : Int32} {q0 : Int64} {σ : PS} : Run false (d + 1) 17 16 [some (.ref 0), some (.int a1), some (.int a2), some (.int a3)] [.long q0] σ =
    some (.inl (some (.long q0), σ)) := by
  rw [Run_go [5, 9, 16] 2]
  rfl
theorem s18_0 {d : Nat} {a1 : Int32} {a2 : Int32} {σ : PS} : Run false (d + 1) 18 0 [some (.ref 0), some (.int a1), some (.int a2), none, none, none] [] σ =
    aft false (d + 1) 18 5 [some (.ref 0), some (.int a1), some (.int a2), none, none, none] [] (Run false d 48 0 [some (.ref 0), some (.int a1)] [] σ) := by
  rw [Run_go [5, 9, 26] 4]
  rfl
theorem s18_5 {d : Nat} {a1 : Int32} {a2 : Int32} {z3 : Option Value} {z4 : Option Value} {z5 : Option Value} {σ : PS} : Run false (d + 1) 18 5 [some (.ref 0), some (.int a1), some (.int a2), z3, z4, z5] [] σ =
    aft false (d + 1) 18 9 [some (.ref 0), some (.int a1), some (.int a2), z3, z4, z5] [] (Run false d 43 0 [some (.int a2)] [] σ) := by
  rw [Run_go [5, 9, 26] 3]
  rfl
set_option maxRecDepth 100000 in
theorem s18_9 {d : Nat} {a1 : Int32} {a2 : Int32} {z3 : Option Value} {z4 : Option Value} {z5 : Option Value} {σ : PS} : Run false (d + 1) 18 9 [some (.ref 0), some (.int a1), some (.int a2), z3, z4, z5] [] σ =
    aft false (d + 1) 18 26 [some (.ref 0), some (.int a1), some (.int a2), some (.int ((a1 * (nI 41)) + a2)), z4, z5] [] (Run false d 56 0 [some (.ref 0), some (.int a1), some (.int a2), some (.int (FI σ 0 0)), none] [] σ) := by
  rw [Run_go [5, 9, 26] 13]
  rfl
set_option maxRecDepth 100000 in
theorem s18_26 {d : Nat} {a1 : Int32} {a2 : Int32} {a3 : Int32} {z4 : Option Value} {z5 : Option Value} {q0 : Int64} {σ : PS} : Run false (d + 1) 18 26 [some (.ref 0), some (.int a1), some (.int a2), some (.int a3), z4, z5] [.long q0] σ =
    (bif inb a3 410 then (bif inb a3 410 then (bif inb a3 410 then some (.inl (some (.long (q0 - (AL σ 83 a3.toNatClampNeg))), (wAL σ 83 a3.toNatClampNeg ((AL σ 83 a3.toNatClampNeg) + (q0 - (AL σ 83 a3.toNatClampNeg)))))) else none) else none) else none) := by
  rw [Run_go [5, 9, 26] 17]
  rfl
theorem s19_0 {d : Nat} {a1 : Int32} {a2 : Int32} {a3 : Int32} {σ : PS} : Run false (d + 1) 19 0 [some (.ref 0), some (.int a1), some (.int a2), some (.int a3), none, none, none] [] σ =
    aft false (d + 1) 19 5 [some (.ref 0), some (.int a1), some (.int a2), some (.int a3), none, none, none] [] (Run false d 48 0 [some (.ref 0), some (.int a1)] [] σ) := by
  rw [Run_go [5, 9, 14, 22, 44, 55, 64] 4]
  rfl
theorem s19_5 {d : Nat} {a1 : Int32} {a2 : Int32} {a3 : Int32} {z4 : Option Value} {z5 : Option Value} {z6 : Option Value} {σ : PS} : Run false (d + 1) 19 5 [some (.ref 0), some (.int a1), some (.int a2), some (.int a3), z4, z5, z6] [] σ =
    aft false (d + 1) 19 9 [some (.ref 0), some (.int a1), some (.int a2), some (.int a3), z4, z5, z6] [] (Run false d 43 0 [some (.int a2)] [] σ) := by
  rw [Run_go [5, 9, 14, 22, 44, 55, 64] 3]
  rfl
theorem s19_9 {d : Nat} {a1 : Int32} {a2 : Int32} {a3 : Int32} {z4 : Option Value} {z5 : Option Value} {z6 : Option Value} {σ : PS} : Run false (d + 1) 19 9 [some (.ref 0), some (.int a1), some (.int a2), some (.int a3), z4, z5, z6] [] σ =
    aft false (d + 1) 19 14 [some (.ref 0), some (.int a1), some (.int a2), some (.int a3), z4, z5, z6] [] (Run false d 47 0 [some (.ref 0), some (.int a3)] [] σ) := by
  rw [Run_go [5, 9, 14, 22, 44, 55, 64] 4]
  rfl
theorem s19_14 {d : Nat} {a1 : Int32} {a2 : Int32} {a3 : Int32} {z4 : Option Value} {z5 : Option Value} {z6 : Option Value} {σ : PS} : Run false (d + 1) 19 14 [some (.ref 0), some (.int a1), some (.int a2), some (.int a3), z4, z5, z6] [] σ =
    aft false (d + 1) 19 22 [some (.ref 0), some (.int a1), some (.int a2), some (.int a3), z4, z5, z6] [] (Run false d 133 0 [some (.ref 12), some (.int a3), none] [] σ) := by
  rw [Run_go [5, 9, 14, 22, 44, 55, 64] 5]
  rfl
set_option maxRecDepth 100000 in
theorem s19_22 {d : Nat} {a1 : Int32} {a2 : Int32} {a3 : Int32} {z4 : Option Value} {z5 : Option Value} {z6 : Option Value} {r0 : Int32} {σ : PS} : Run false (d + 1) 19 22 [some (.ref 0), some (.int a1), some (.int a2), some (.int a3), z4, z5, z6] [.int r0] σ =
    (bif obl (r0 = (nI 0)) then aft false (d + 1) 19 44 [some (.ref 0), some (.int a1), some (.int a2), some (.int a3), some (.int r0), z5, z6] [] (Run false d 97 0 [some (.ref 1), some (.int a2)] [] σ) else some (.inl (some (.long ((r0 - (nI 10)).toInt64)), σ))) := by
  rw [Run_go [5, 9, 14, 22, 44, 55, 64] 9]
  rfl
set_option maxRecDepth 100000 in
theorem s19_44 {d : Nat} {a1 : Int32} {a2 : Int32} {a3 : Int32} {a4 : Int32} {z5 : Option Value} {z6 : Option Value} {r0 : Int32} {σ : PS} : Run false (d + 1) 19 44 [some (.ref 0), some (.int a1), some (.int a2), some (.int a3), some (.int a4), z5, z6] [.int r0] σ =
    aft false (d + 1) 19 55 [some (.ref 0), some (.int a1), some (.int a2), some (.int a3), some (.int a4), z5, z6] [] (Run false d 56 0 [some (.ref 0), some (.int a1), some (.int a2), some (.int (FI σ 0 0)), none] [] σ) := by
  rw [Run_go [5, 9, 14, 22, 44, 55, 64] 8]
  rfl
theorem s19_55 {d : Nat} {a1 : Int32} {a2 : Int32} {a3 : Int32} {a4 : Int32} {z5 : Option Value} {z6 : Option Value} {q0 : Int64} {σ : PS} : Run false (d + 1) 19 55 [some (.ref 0), some (.int a1), some (.int a2), some (.int a3), some (.int a4), z5, z6] [.long q0] σ =
    aft false (d + 1) 19 64 [some (.ref 0), some (.int a1), some (.int a2), some (.int a3), some (.int a4), some (.long q0), none] [] (Run false d 98 0 [some (.ref 1)] [] σ) := by
  rw [Run_go [5, 9, 14, 22, 44, 55, 64] 5]
  rfl
theorem s19_64 {d : Nat} {a1 : Int32} {a2 : Int32} {a3 : Int32} {a4 : Int32} {b5 : Int64} {σ : PS} : Run false (d + 1) 19 64 [some (.ref 0), some (.int a1), some (.int a2), some (.int a3), some (.int a4), some (.long b5), none] [] σ =
    some (.inl (some (.long b5), σ)) := by
  rw [Run_go [5, 9, 14, 22, 44, 55, 64] 3]
  rfl
theorem s20_0 {d : Nat} {a1 : Int32} {a2 : Int32} {a3 : Int32} {σ : PS} : Run false (d + 1) 20 0 [some (.ref 0), some (.int a1), some (.int a2), some (.int a3)] [] σ =
    aft false (d + 1) 20 5 [some (.ref 0), some (.int a1), some (.int a2), some (.int a3)] [] (Run false d 49 0 [some (.ref 0), some (.int a1)] [] σ) := by
  rw [Run_go [5, 11, 15, 25] 4]
  rfl
theorem s20_5 {d : Nat} {a1 : Int32} {a2 : Int32} {a3 : Int32} {σ : PS} : Run false (d + 1) 20 5 [some (.ref 0), some (.int a1), some (.int a2), some (.int a3)] [] σ =
    aft false (d + 1) 20 11 [some (.ref 0), some (.int a1), some (.int a2), some (.int a3)] [] (Run false d 50 0 [some (.ref 0), some (.int a1), some (.int a2)] [] σ) := by
  rw [Run_go [5, 11, 15, 25] 5]
  rfl
theorem s20_11 {d : Nat} {a1 : Int32} {a2 : Int32} {a3 : Int32} {σ : PS} : Run false (d + 1) 20 11 [some (.ref 0), some (.int a1), some (.int a2), some (.int a3)] [] σ =
    aft false (d + 1) 20 15 [some (.ref 0), some (.int a1), some (.int a2), some (.int a3)] [] (Run false d 43 0 [some (.int a3)] [] σ) := by
  rw [Run_go [5, 11, 15, 25] 3]
  rfl
set_option maxRecDepth 100000 in
theorem s20_15 {d : Nat} {a1 : Int32} {a2 : Int32} {a3 : Int32} {σ : PS} : Run false (d + 1) 20 15 [some (.ref 0), some (.int a1), some (.int a2), some (.int a3)] [] σ =
    aft false (d + 1) 20 25 [some (.ref 0), some (.int a1), some (.int a2), some (.int a3)] [] (Run false d 59 0 [some (.ref 0), some (.int ((a1 * (nI 5)) + a2)), some (.int a3), none, none, none] [] σ) := by
  rw [Run_go [5, 11, 15, 25] 9]
  rfl
theorem s20_25 {d : Nat} {a1 : Int32} {a2 : Int32} {a3 : Int32} {r0 : Int32} {σ : PS} : Run false (d + 1) 20 25 [some (.ref 0), some (.int a1), some (.int a2), some (.int a3)] [.int r0] σ =
    (bif is01 r0 then some (.inl (some (.int r0), σ)) else none) := by
  rw [Run_go [5, 11, 15, 25] 2]
  rfl
theorem s21_0 {d : Nat} {a1 : Int32} {a2 : Int32} {a3 : Int32} {σ : PS} : Run false (d + 1) 21 0 [some (.ref 0), some (.int a1), some (.int a2), some (.int a3)] [] σ =
    aft false (d + 1) 21 5 [some (.ref 0), some (.int a1), some (.int a2), some (.int a3)] [] (Run false d 48 0 [some (.ref 0), some (.int a1)] [] σ) := by
  rw [Run_go [5, 9, 15, 21] 4]
  rfl
theorem s21_5 {d : Nat} {a1 : Int32} {a2 : Int32} {a3 : Int32} {σ : PS} : Run false (d + 1) 21 5 [some (.ref 0), some (.int a1), some (.int a2), some (.int a3)] [] σ =
    aft false (d + 1) 21 9 [some (.ref 0), some (.int a1), some (.int a2), some (.int a3)] [] (Run false d 43 0 [some (.int a2)] [] σ) := by
  rw [Run_go [5, 9, 15, 21] 3]
  rfl
theorem s21_9 {d : Nat} {a1 : Int32} {a2 : Int32} {a3 : Int32} {σ : PS} : Run false (d + 1) 21 9 [some (.ref 0), some (.int a1), some (.int a2), some (.int a3)] [] σ =
    aft false (d + 1) 21 15 [some (.ref 0), some (.int a1), some (.int a2), some (.int a3)] [] (Run false d 42 0 [some (.int a3), some (.int (-1 : Int32)), some (.int (nI 4))] [] σ) := by
  rw [Run_go [5, 9, 15, 21] 5]
  rfl
theorem s21_15 {d : Nat} {a1 : Int32} {a2 : Int32} {a3 : Int32} {σ : PS} : Run false (d + 1) 21 15 [some (.ref 0), some (.int a1), some (.int a2), some (.int a3)] [] σ =
    aft false (d + 1) 21 21 [some (.ref 0), some (.int a1), some (.int a2), some (.int a3)] [] (Run false d 60 0 [some (.ref 0), some (.int a1), some (.int a2), none] [] σ) := by
  rw [Run_go [5, 9, 15, 21] 5]
  rfl
set_option maxRecDepth 100000 in
theorem s21_21 {d : Nat} {a1 : Int32} {a2 : Int32} {a3 : Int32} {σ : PS} : Run false (d + 1) 21 21 [some (.ref 0), some (.int a1), some (.int a2), some (.int a3)] [] σ =
    (bif obl ((nI 0) ≤ a3) then (bif obl ((lg_cmp (FL σ 48 1) (lN 0)) < (nI 0)) then some (.inl (some (.long (-1 : Int64)), σ)) else (bif obl (a3 < (FI σ 48 0)) then (bif inb a3 5 then some (.inl (some (.long ((AI σ 50 a3.toNatClampNeg).toInt64)), σ)) else none) else some (.inl (some (.long (-1 : Int64)), σ)))) else some (.inl (some (.long (FL σ 48 1)), σ))) := by
  rw [Run_go [5, 9, 15, 21] 21]
  rfl
set_option maxRecDepth 100000 in
theorem s22_0 {d : Nat}  {σ : PS} : Run false (d + 1) 22 0 [some (.ref 0)] [] σ =
    (bif obl ((FI σ 31 0) < (nI 4)) then some (.inl (some (.int (((FI σ 31 0) + (nI 1)) - (nI 1))), (wFI σ 31 0 ((FI σ 31 0) + (nI 1))))) else some (.inr (2, thF σ))) := by
  rw [Run_go [] 19]
  rfl
theorem s23_0 {d : Nat} {a1 : Int32} {a2 : Int32} {a3 : Int32} {σ : PS} : Run false (d + 1) 23 0 [some (.ref 0), some (.int a1), some (.int a2), some (.int a3)] [] σ =
    aft false (d + 1) 23 5 [some (.ref 0), some (.int a1), some (.int a2), some (.int a3)] [] (Run false d 48 0 [some (.ref 0), some (.int a1)] [] σ) := by
  rw [Run_go [5, 10, 14, 24] 4]
  rfl
theorem s23_5 {d : Nat} {a1 : Int32} {a2 : Int32} {a3 : Int32} {σ : PS} : Run false (d + 1) 23 5 [some (.ref 0), some (.int a1), some (.int a2), some (.int a3)] [] σ =
    aft false (d + 1) 23 10 [some (.ref 0), some (.int a1), some (.int a2), some (.int a3)] [] (Run false d 52 0 [some (.ref 0), some (.int a2)] [] σ) := by
  rw [Run_go [5, 10, 14, 24] 4]
  rfl
theorem s23_10 {d : Nat} {a1 : Int32} {a2 : Int32} {a3 : Int32} {σ : PS} : Run false (d + 1) 23 10 [some (.ref 0), some (.int a1), some (.int a2), some (.int a3)] [] σ =
    aft false (d + 1) 23 14 [some (.ref 0), some (.int a1), some (.int a2), some (.int a3)] [] (Run false d 43 0 [some (.int a3)] [] σ) := by
  rw [Run_go [5, 10, 14, 24] 3]
  rfl
theorem s23_14 {d : Nat} {a1 : Int32} {a2 : Int32} {a3 : Int32} {σ : PS} : Run false (d + 1) 23 14 [some (.ref 0), some (.int a1), some (.int a2), some (.int a3)] [] σ =
    aft false (d + 1) 23 24 [some (.ref 0), some (.int a1), some (.int a2), some (.int a3)] [] (Run false d 162 0 [some (.ref 31), some (.int a1), some (.int a2), some (.int a3)] [] σ) := by
  rw [Run_go [5, 10, 14, 24] 7]
  rfl
theorem s23_24 {d : Nat} {a1 : Int32} {a2 : Int32} {a3 : Int32} {r0 : Int32} {σ : PS} : Run false (d + 1) 23 24 [some (.ref 0), some (.int a1), some (.int a2), some (.int a3)] [.int r0] σ =
    some (.inl (some (.int r0), σ)) := by
  rw [Run_go [5, 10, 14, 24] 2]
  rfl
theorem s24_0 {d : Nat} {a1 : Int32} {a2 : Int32} {σ : PS} : Run false (d + 1) 24 0 [some (.ref 0), some (.int a1), some (.int a2)] [] σ =
    aft false (d + 1) 24 5 [some (.ref 0), some (.int a1), some (.int a2)] [] (Run false d 48 0 [some (.ref 0), some (.int a1)] [] σ) := by
  rw [Run_go [5, 9, 18] 4]
  rfl
theorem s24_5 {d : Nat} {a1 : Int32} {a2 : Int32} {σ : PS} : Run false (d + 1) 24 5 [some (.ref 0), some (.int a1), some (.int a2)] [] σ =
    aft false (d + 1) 24 9 [some (.ref 0), some (.int a1), some (.int a2)] [] (Run false d 43 0 [some (.int a2)] [] σ) := by
  rw [Run_go [5, 9, 18] 3]
  rfl
theorem s24_9 {d : Nat} {a1 : Int32} {a2 : Int32} {σ : PS} : Run false (d + 1) 24 9 [some (.ref 0), some (.int a1), some (.int a2)] [] σ =
    aft false (d + 1) 24 18 [some (.ref 0), some (.int a1), some (.int a2)] [] (Run false d 163 0 [some (.ref 31), some (.int a1), some (.int a2), none, none, none] [] σ) := by
  rw [Run_go [5, 9, 18] 6]
  rfl
theorem s24_18 {d : Nat} {a1 : Int32} {a2 : Int32} {r0 : Int32} {σ : PS} : Run false (d + 1) 24 18 [some (.ref 0), some (.int a1), some (.int a2)] [.int r0] σ =
    some (.inl (some (.int r0), σ)) := by
  rw [Run_go [5, 9, 18] 2]
  rfl
theorem s25_0 {d : Nat} {a1 : Int32} {a2 : Int32} {a3 : Int32} {a4 : Int32} {a5 : Int32} {σ : PS} : Run false (d + 1) 25 0 [some (.ref 0), some (.int a1), some (.int a2), some (.int a3), some (.int a4), some (.int a5)] [] σ =
    aft false (d + 1) 25 5 [some (.ref 0), some (.int a1), some (.int a2), some (.int a3), some (.int a4), some (.int a5)] [] (Run false d 51 0 [some (.ref 0), some (.int a1)] [] σ) := by
  rw [Run_go [5, 9, 13, 20, 27, 60, 69, 70, 77, 78, 87, 88, 97, 98, 105] 4]
  rfl
theorem s25_5 {d : Nat} {a1 : Int32} {a2 : Int32} {a3 : Int32} {a4 : Int32} {a5 : Int32} {σ : PS} : Run false (d + 1) 25 5 [some (.ref 0), some (.int a1), some (.int a2), some (.int a3), some (.int a4), some (.int a5)] [] σ =
    aft false (d + 1) 25 9 [some (.ref 0), some (.int a1), some (.int a2), some (.int a3), some (.int a4), some (.int a5)] [] (Run false d 44 0 [some (.int a2)] [] σ) := by
  rw [Run_go [5, 9, 13, 20, 27, 60, 69, 70, 77, 78, 87, 88, 97, 98, 105] 3]
  rfl
theorem s25_9 {d : Nat} {a1 : Int32} {a2 : Int32} {a3 : Int32} {a4 : Int32} {a5 : Int32} {σ : PS} : Run false (d + 1) 25 9 [some (.ref 0), some (.int a1), some (.int a2), some (.int a3), some (.int a4), some (.int a5)] [] σ =
    aft false (d + 1) 25 13 [some (.ref 0), some (.int a1), some (.int a2), some (.int a3), some (.int a4), some (.int a5)] [] (Run false d 43 0 [some (.int a3)] [] σ) := by
  rw [Run_go [5, 9, 13, 20, 27, 60, 69, 70, 77, 78, 87, 88, 97, 98, 105] 3]
  rfl
theorem s25_13 {d : Nat} {a1 : Int32} {a2 : Int32} {a3 : Int32} {a4 : Int32} {a5 : Int32} {σ : PS} : Run false (d + 1) 25 13 [some (.ref 0), some (.int a1), some (.int a2), some (.int a3), some (.int a4), some (.int a5)] [] σ =
    aft false (d + 1) 25 20 [some (.ref 0), some (.int a1), some (.int a2), some (.int a3), some (.int a4), some (.int a5)] [] (Run false d 42 0 [some (.int a5), some (.int (nI 0)), some (.int (nI 4))] [] σ) := by
  rw [Run_go [5, 9, 13, 20, 27, 60, 69, 70, 77, 78, 87, 88, 97, 98, 105] 5]
  rfl
theorem s25_20 {d : Nat} {a1 : Int32} {a2 : Int32} {a3 : Int32} {a4 : Int32} {a5 : Int32} {σ : PS} : Run false (d + 1) 25 20 [some (.ref 0), some (.int a1), some (.int a2), some (.int a3), some (.int a4), some (.int a5)] [] σ =
    aft false (d + 1) 25 27 [some (.ref 0), some (.int a1), some (.int a2), some (.int a3), some (.int a4), some (.int a5)] [] (Run false d 55 0 [some (.ref 0), some (.int a3), some (.int a4), none, none] [] σ) := by
  rw [Run_go [5, 9, 13, 20, 27, 60, 69, 70, 77, 78, 87, 88, 97, 98, 105] 5]
  rfl
theorem s25_27 {d : Nat} {a1 : Int32} {a2 : Int32} {a3 : Int32} {a4 : Int32} {a5 : Int32} {σ : PS} : Run false (d + 1) 25 27 [some (.ref 0), some (.int a1), some (.int a2), some (.int a3), some (.int a4), some (.int a5)] [] σ =
    Run false (d + 1) 25 (tswF 29 69 0 3 #[31, 41, 49, 59] a5) [some (.ref 0), some (.int a1), some (.int a2), some (.int a3), some (.int a4), some (.int a5)] [] σ := by
  rw [Run_go [5, 9, 13, 20, 27, 60, 69, 70, 77, 78, 87, 88, 97, 98, 105] 3]
  rfl
theorem s25_60 {d : Nat} {a1 : Int32} {a2 : Int32} {a3 : Int32} {a4 : Int32} {a5 : Int32} {σ : PS} : Run false (d + 1) 25 60 [some (.ref 0), some (.int a1), some (.int a2), some (.int a3), some (.int a4), some (.int a5)] [] σ =
    aft false (d + 1) 25 69 [some (.ref 0), some (.int a1), some (.int a2), some (.int a3), some (.int a4), some (.int a5)] [] (Run false d 86 0 [some (.ref 36), some (.int a1), some (.int a2), none, none, none] [] σ) := by
  rw [Run_go [5, 9, 13, 20, 27, 60, 69, 70, 77, 78, 87, 88, 97, 98, 105] 6]
  rfl
theorem s25_69 {d : Nat} {a1 : Int32} {a2 : Int32} {a3 : Int32} {a4 : Int32} {a5 : Int32} {q0 : Int64} {σ : PS} : Run false (d + 1) 25 69 [some (.ref 0), some (.int a1), some (.int a2), some (.int a3), some (.int a4), some (.int a5)] [.long q0] σ =
    some (.inl (some (.long q0), σ)) := by
  rw [Run_go [5, 9, 13, 20, 27, 60, 69, 70, 77, 78, 87, 88, 97, 98, 105] 2]
  rfl
theorem s25_70 {d : Nat} {a1 : Int32} {a2 : Int32} {a3 : Int32} {a4 : Int32} {a5 : Int32} {σ : PS} : Run false (d + 1) 25 70 [some (.ref 0), some (.int a1), some (.int a2), some (.int a3), some (.int a4), some (.int a5)] [] σ =
    aft false (d + 1) 25 77 [some (.ref 0), some (.int a1), some (.int a2), some (.int a3), some (.int a4), some (.int a5)] [] (Run false d 65 0 [some (.ref 0), some (.int a1), some (.int a2), some (.int a3), none, none] [] σ) := by
  rw [Run_go [5, 9, 13, 20, 27, 60, 69, 70, 77, 78, 87, 88, 97, 98, 105] 6]
  rfl
theorem s25_77 {d : Nat} {a1 : Int32} {a2 : Int32} {a3 : Int32} {a4 : Int32} {a5 : Int32} {q0 : Int64} {σ : PS} : Run false (d + 1) 25 77 [some (.ref 0), some (.int a1), some (.int a2), some (.int a3), some (.int a4), some (.int a5)] [.long q0] σ =
    some (.inl (some (.long q0), σ)) := by
  rw [Run_go [5, 9, 13, 20, 27, 60, 69, 70, 77, 78, 87, 88, 97, 98, 105] 2]
  rfl
theorem s25_78 {d : Nat} {a1 : Int32} {a2 : Int32} {a3 : Int32} {a4 : Int32} {a5 : Int32} {σ : PS} : Run false (d + 1) 25 78 [some (.ref 0), some (.int a1), some (.int a2), some (.int a3), some (.int a4), some (.int a5)] [] σ =
    aft false (d + 1) 25 87 [some (.ref 0), some (.int a1), some (.int a2), some (.int a3), some (.int a4), some (.int a5)] [] (Run false d 66 0 [some (.ref 0), some (.int a1), some (.int a2), some (.int a3), some (.int a4)] [] σ) := by
  rw [Run_go [5, 9, 13, 20, 27, 60, 69, 70, 77, 78, 87, 88, 97, 98, 105] 7]
  rfl
theorem s25_87 {d : Nat} {a1 : Int32} {a2 : Int32} {a3 : Int32} {a4 : Int32} {a5 : Int32} {q0 : Int64} {σ : PS} : Run false (d + 1) 25 87 [some (.ref 0), some (.int a1), some (.int a2), some (.int a3), some (.int a4), some (.int a5)] [.long q0] σ =
    some (.inl (some (.long q0), σ)) := by
  rw [Run_go [5, 9, 13, 20, 27, 60, 69, 70, 77, 78, 87, 88, 97, 98, 105] 2]
  rfl
theorem s25_88 {d : Nat} {a1 : Int32} {a2 : Int32} {a3 : Int32} {a4 : Int32} {a5 : Int32} {σ : PS} : Run false (d + 1) 25 88 [some (.ref 0), some (.int a1), some (.int a2), some (.int a3), some (.int a4), some (.int a5)] [] σ =
    aft false (d + 1) 25 97 [some (.ref 0), some (.int a1), some (.int a2), some (.int a3), some (.int a4), some (.int a5)] [] (Run false d 67 0 [some (.ref 0), some (.int a1), some (.int a2), some (.int a3), some (.int a4)] [] σ) := by
  rw [Run_go [5, 9, 13, 20, 27, 60, 69, 70, 77, 78, 87, 88, 97, 98, 105] 7]
  rfl
theorem s25_97 {d : Nat} {a1 : Int32} {a2 : Int32} {a3 : Int32} {a4 : Int32} {a5 : Int32} {q0 : Int64} {σ : PS} : Run false (d + 1) 25 97 [some (.ref 0), some (.int a1), some (.int a2), some (.int a3), some (.int a4), some (.int a5)] [.long q0] σ =
    some (.inl (some (.long q0), σ)) := by
  rw [Run_go [5, 9, 13, 20, 27, 60, 69, 70, 77, 78, 87, 88, 97, 98, 105] 2]
  rfl
theorem s25_98 {d : Nat} {a1 : Int32} {a2 : Int32} {a3 : Int32} {a4 : Int32} {a5 : Int32} {σ : PS} : Run false (d + 1) 25 98 [some (.ref 0), some (.int a1), some (.int a2), some (.int a3), some (.int a4), some (.int a5)] [] σ =
    aft false (d + 1) 25 105 [some (.ref 0), some (.int a1), some (.int a2), some (.int a3), some (.int a4), some (.int a5)] [] (Run false d 64 0 [some (.ref 0), some (.int a1), some (.int a2), some (.int a3), none, none] [] σ) := by
  rw [Run_go [5, 9, 13, 20, 27, 60, 69, 70, 77, 78, 87, 88, 97, 98, 105] 6]
  rfl
theorem s25_105 {d : Nat} {a1 : Int32} {a2 : Int32} {a3 : Int32} {a4 : Int32} {a5 : Int32} {q0 : Int64} {σ : PS} : Run false (d + 1) 25 105 [some (.ref 0), some (.int a1), some (.int a2), some (.int a3), some (.int a4), some (.int a5)] [.long q0] σ =
    some (.inl (some (.long q0), σ)) := by
  rw [Run_go [5, 9, 13, 20, 27, 60, 69, 70, 77, 78, 87, 88, 97, 98, 105] 2]
  rfl
theorem s26_0 {d : Nat} {a1 : Int32} {a2 : Int32} {a3 : Int32} {σ : PS} : Run false (d + 1) 26 0 [some (.ref 0), some (.int a1), some (.int a2), some (.int a3), none, none] [] σ =
    aft false (d + 1) 26 4 [some (.ref 0), some (.int a1), some (.int a2), some (.int a3), none, none] [] (Run false d 44 0 [some (.int a1)] [] σ) := by
  rw [Run_go [4, 8, 16] 3]
  rfl
theorem s26_4 {d : Nat} {a1 : Int32} {a2 : Int32} {a3 : Int32} {z4 : Option Value} {z5 : Option Value} {σ : PS} : Run false (d + 1) 26 4 [some (.ref 0), some (.int a1), some (.int a2), some (.int a3), z4, z5] [] σ =
    aft false (d + 1) 26 8 [some (.ref 0), some (.int a1), some (.int a2), some (.int a3), z4, z5] [] (Run false d 43 0 [some (.int a2)] [] σ) := by
  rw [Run_go [4, 8, 16] 3]
  rfl
theorem s26_8 {d : Nat} {a1 : Int32} {a2 : Int32} {a3 : Int32} {z4 : Option Value} {z5 : Option Value} {σ : PS} : Run false (d + 1) 26 8 [some (.ref 0), some (.int a1), some (.int a2), some (.int a3), z4, z5] [] σ =
    aft false (d + 1) 26 16 [some (.ref 0), some (.int a1), some (.int a2), some (.int a3), z4, z5] [] (Run false d 42 0 [some (.int a3), some (.int (nI 0)), some (.int (nI 1000000))] [] σ) := by
  rw [Run_go [4, 8, 16] 5]
  rfl
set_option maxRecDepth 100000 in
theorem s26_16 {d : Nat} {a1 : Int32} {a2 : Int32} {a3 : Int32} {z4 : Option Value} {z5 : Option Value} {σ : PS} : Run false (d + 1) 26 16 [some (.ref 0), some (.int a1), some (.int a2), some (.int a3), z4, z5] [] σ =
    (bif inb ((a1 * (nI 41)) + a2) 205 then (bif inb ((a1 * (nI 41)) + a2) 205 then some (.inl (some (.int (AI σ 84 ((a1 * (nI 41)) + a2).toNatClampNeg)), (wAI σ 84 ((a1 * (nI 41)) + a2).toNatClampNeg a3))) else none) else none) := by
  rw [Run_go [4, 8, 16] 19]
  rfl
theorem s27_0 {d : Nat} {a1 : Int32} {a2 : Int32} {a3 : Int32} {a4 : Int32} {a5 : Int32} {a6 : Int32} {a7 : Int32} {σ : PS} : Run false (d + 1) 27 0 [some (.ref 0), some (.int a1), some (.int a2), some (.int a3), some (.int a4), some (.int a5), some (.int a6), some (.int a7), none, none] [] σ =
    aft false (d + 1) 27 6 [some (.ref 0), some (.int a1), some (.int a2), some (.int a3), some (.int a4), some (.int a5), some (.int a6), some (.int a7), none, none] [] (Run false d 42 0 [some (.int a1), some (.int (nI 0)), some (.int (nI 5))] [] σ) := by
  rw [Run_go [6, 14, 21, 29, 37, 45, 53, 76, 90, 124, 150, 176, 202, 228] 5]
  rfl
theorem s27_6 {d : Nat} {a1 : Int32} {a2 : Int32} {a3 : Int32} {a4 : Int32} {a5 : Int32} {a6 : Int32} {a7 : Int32} {z8 : Option Value} {z9 : Option Value} {σ : PS} : Run false (d + 1) 27 6 [some (.ref 0), some (.int a1), some (.int a2), some (.int a3), some (.int a4), some (.int a5), some (.int a6), some (.int a7), z8, z9] [] σ =
    aft false (d + 1) 27 14 [some (.ref 0), some (.int a1), some (.int a2), some (.int a3), some (.int a4), some (.int a5), some (.int a6), some (.int a7), z8, z9] [] (Run false d 42 0 [some (.int a2), some (.int (nI 1)), some (.int (nI 20000))] [] σ) := by
  rw [Run_go [6, 14, 21, 29, 37, 45, 53, 76, 90, 124, 150, 176, 202, 228] 5]
  rfl
theorem s27_14 {d : Nat} {a1 : Int32} {a2 : Int32} {a3 : Int32} {a4 : Int32} {a5 : Int32} {a6 : Int32} {a7 : Int32} {z8 : Option Value} {z9 : Option Value} {σ : PS} : Run false (d + 1) 27 14 [some (.ref 0), some (.int a1), some (.int a2), some (.int a3), some (.int a4), some (.int a5), some (.int a6), some (.int a7), z8, z9] [] σ =
    aft false (d + 1) 27 21 [some (.ref 0), some (.int a1), some (.int a2), some (.int a3), some (.int a4), some (.int a5), some (.int a6), some (.int a7), z8, z9] [] (Run false d 42 0 [some (.int a3), some (.int (nI 0)), some (.int (nI 100))] [] σ) := by
  rw [Run_go [6, 14, 21, 29, 37, 45, 53, 76, 90, 124, 150, 176, 202, 228] 5]
  rfl
theorem s27_21 {d : Nat} {a1 : Int32} {a2 : Int32} {a3 : Int32} {a4 : Int32} {a5 : Int32} {a6 : Int32} {a7 : Int32} {z8 : Option Value} {z9 : Option Value} {σ : PS} : Run false (d + 1) 27 21 [some (.ref 0), some (.int a1), some (.int a2), some (.int a3), some (.int a4), some (.int a5), some (.int a6), some (.int a7), z8, z9] [] σ =
    aft false (d + 1) 27 29 [some (.ref 0), some (.int a1), some (.int a2), some (.int a3), some (.int a4), some (.int a5), some (.int a6), some (.int a7), z8, z9] [] (Run false d 42 0 [some (.int a4), some (.int (nI 0)), some (.int (nI 100))] [] σ) := by
  rw [Run_go [6, 14, 21, 29, 37, 45, 53, 76, 90, 124, 150, 176, 202, 228] 5]
  rfl
theorem s27_29 {d : Nat} {a1 : Int32} {a2 : Int32} {a3 : Int32} {a4 : Int32} {a5 : Int32} {a6 : Int32} {a7 : Int32} {z8 : Option Value} {z9 : Option Value} {σ : PS} : Run false (d + 1) 27 29 [some (.ref 0), some (.int a1), some (.int a2), some (.int a3), some (.int a4), some (.int a5), some (.int a6), some (.int a7), z8, z9] [] σ =
    aft false (d + 1) 27 37 [some (.ref 0), some (.int a1), some (.int a2), some (.int a3), some (.int a4), some (.int a5), some (.int a6), some (.int a7), z8, z9] [] (Run false d 42 0 [some (.int a5), some (.int (nI 0)), some (.int (nI 100))] [] σ) := by
  rw [Run_go [6, 14, 21, 29, 37, 45, 53, 76, 90, 124, 150, 176, 202, 228] 5]
  rfl
theorem s27_37 {d : Nat} {a1 : Int32} {a2 : Int32} {a3 : Int32} {a4 : Int32} {a5 : Int32} {a6 : Int32} {a7 : Int32} {z8 : Option Value} {z9 : Option Value} {σ : PS} : Run false (d + 1) 27 37 [some (.ref 0), some (.int a1), some (.int a2), some (.int a3), some (.int a4), some (.int a5), some (.int a6), some (.int a7), z8, z9] [] σ =
    aft false (d + 1) 27 45 [some (.ref 0), some (.int a1), some (.int a2), some (.int a3), some (.int a4), some (.int a5), some (.int a6), some (.int a7), z8, z9] [] (Run false d 42 0 [some (.int a6), some (.int (nI 0)), some (.int (nI 100))] [] σ) := by
  rw [Run_go [6, 14, 21, 29, 37, 45, 53, 76, 90, 124, 150, 176, 202, 228] 5]
  rfl
theorem s27_45 {d : Nat} {a1 : Int32} {a2 : Int32} {a3 : Int32} {a4 : Int32} {a5 : Int32} {a6 : Int32} {a7 : Int32} {z8 : Option Value} {z9 : Option Value} {σ : PS} : Run false (d + 1) 27 45 [some (.ref 0), some (.int a1), some (.int a2), some (.int a3), some (.int a4), some (.int a5), some (.int a6), some (.int a7), z8, z9] [] σ =
    aft false (d + 1) 27 53 [some (.ref 0), some (.int a1), some (.int a2), some (.int a3), some (.int a4), some (.int a5), some (.int a6), some (.int a7), z8, z9] [] (Run false d 42 0 [some (.int a7), some (.int (nI 0)), some (.int (nI 50))] [] σ) := by
  rw [Run_go [6, 14, 21, 29, 37, 45, 53, 76, 90, 124, 150, 176, 202, 228] 5]
  rfl
set_option maxRecDepth 100000 in
theorem s27_53 {d : Nat} {a1 : Int32} {a2 : Int32} {a3 : Int32} {a4 : Int32} {a5 : Int32} {a6 : Int32} {a7 : Int32} {z8 : Option Value} {z9 : Option Value} {σ : PS} : Run false (d + 1) 27 53 [some (.ref 0), some (.int a1), some (.int a2), some (.int a3), some (.int a4), some (.int a5), some (.int a6), some (.int a7), z8, z9] [] σ =
    aft false (d + 1) 27 76 [some (.ref 0), some (.int a1), some (.int a2), some (.int a3), some (.int a4), some (.int a5), some (.int a6), some (.int a7), some (.int (((((nI 100) - a3) - a4) - a5) - a6)), z9] [] (Run false d 42 0 [some (.int (((((nI 100) - a3) - a4) - a5) - a6)), some (.int (nI 0)), some (.int (nI 100))] [] σ) := by
  rw [Run_go [6, 14, 21, 29, 37, 45, 53, 76, 90, 124, 150, 176, 202, 228] 15]
  rfl
set_option maxRecDepth 100000 in
theorem s27_76 {d : Nat} {a1 : Int32} {a2 : Int32} {a3 : Int32} {a4 : Int32} {a5 : Int32} {a6 : Int32} {a7 : Int32} {a8 : Int32} {z9 : Option Value} {σ : PS} : Run false (d + 1) 27 76 [some (.ref 0), some (.int a1), some (.int a2), some (.int a3), some (.int a4), some (.int a5), some (.int a6), some (.int a7), some (.int a8), z9] [] σ =
    aft false (d + 1) 27 90 [some (.ref 0), some (.int a1), some (.int a2), some (.int a3), some (.int a4), some (.int a5), some (.int a6), some (.int a7), some (.int a8), z9] [] (Run false d 105 0 [some (.ref 60), some (.int a1), some (.int (FI σ 0 0)), some (.int a8)] [] σ) := by
  rw [Run_go [6, 14, 21, 29, 37, 45, 53, 76, 90, 124, 150, 176, 202, 228] 8]
  rfl
set_option maxRecDepth 100000 in
theorem s27_90 {d : Nat} {a1 : Int32} {a2 : Int32} {a3 : Int32} {a4 : Int32} {a5 : Int32} {a6 : Int32} {a7 : Int32} {a8 : Int32} {z9 : Option Value} {r0 : Int32} {σ : PS} : Run false (d + 1) 27 90 [some (.ref 0), some (.int a1), some (.int a2), some (.int a3), some (.int a4), some (.int a5), some (.int a6), some (.int a7), some (.int a8), z9] [.int r0] σ =
    (bif obl ((nI 0) ≤ r0) then (bif obl ((nI 100) = nI 0) then none else (bif obl ((nI 100) = nI 0) then none else aft false (d + 1) 27 124 [some (.ref 0), some (.int a1), some (.int a2), some (.int a3), some (.int a4), some (.int a5), some (.int a6), some (.int a7), some (.int a8), some (.int r0)] [] (Run false d 106 0 [some (.ref 60), some (.int r0), some (.int (nI 0)), some (.int ((((a2 * a3) / (nI 100)) * ((nI 100) - a7)) / (nI 100)))] [] σ))) else some (.inl (some (.int (-1 : Int32)), σ))) := by
  rw [Run_go [6, 14, 21, 29, 37, 45, 53, 76, 90, 124, 150, 176, 202, 228] 20]
  rfl
set_option maxRecDepth 100000 in
theorem s27_124 {d : Nat} {a1 : Int32} {a2 : Int32} {a3 : Int32} {a4 : Int32} {a5 : Int32} {a6 : Int32} {a7 : Int32} {a8 : Int32} {a9 : Int32} {σ : PS} : Run false (d + 1) 27 124 [some (.ref 0), some (.int a1), some (.int a2), some (.int a3), some (.int a4), some (.int a5), some (.int a6), some (.int a7), some (.int a8), some (.int a9)] [] σ =
    (bif obl ((nI 100) = nI 0) then none else (bif obl ((nI 100) = nI 0) then none else aft false (d + 1) 27 150 [some (.ref 0), some (.int a1), some (.int a2), some (.int a3), some (.int a4), some (.int a5), some (.int a6), some (.int a7), some (.int a8), some (.int a9)] [] (Run false d 106 0 [some (.ref 60), some (.int a9), some (.int (nI 1)), some (.int ((((a2 * a4) / (nI 100)) * ((nI 100) - a7)) / (nI 100)))] [] σ))) := by
  rw [Run_go [6, 14, 21, 29, 37, 45, 53, 76, 90, 124, 150, 176, 202, 228] 17]
  rfl
set_option maxRecDepth 100000 in
theorem s27_150 {d : Nat} {a1 : Int32} {a2 : Int32} {a3 : Int32} {a4 : Int32} {a5 : Int32} {a6 : Int32} {a7 : Int32} {a8 : Int32} {a9 : Int32} {σ : PS} : Run false (d + 1) 27 150 [some (.ref 0), some (.int a1), some (.int a2), some (.int a3), some (.int a4), some (.int a5), some (.int a6), some (.int a7), some (.int a8), some (.int a9)] [] σ =
    (bif obl ((nI 100) = nI 0) then none else (bif obl ((nI 100) = nI 0) then none else aft false (d + 1) 27 176 [some (.ref 0), some (.int a1), some (.int a2), some (.int a3), some (.int a4), some (.int a5), some (.int a6), some (.int a7), some (.int a8), some (.int a9)] [] (Run false d 106 0 [some (.ref 60), some (.int a9), some (.int (nI 2)), some (.int ((((a2 * a5) / (nI 100)) * ((nI 100) - a7)) / (nI 100)))] [] σ))) := by
  rw [Run_go [6, 14, 21, 29, 37, 45, 53, 76, 90, 124, 150, 176, 202, 228] 17]
  rfl
set_option maxRecDepth 100000 in
theorem s27_176 {d : Nat} {a1 : Int32} {a2 : Int32} {a3 : Int32} {a4 : Int32} {a5 : Int32} {a6 : Int32} {a7 : Int32} {a8 : Int32} {a9 : Int32} {σ : PS} : Run false (d + 1) 27 176 [some (.ref 0), some (.int a1), some (.int a2), some (.int a3), some (.int a4), some (.int a5), some (.int a6), some (.int a7), some (.int a8), some (.int a9)] [] σ =
    (bif obl ((nI 100) = nI 0) then none else (bif obl ((nI 100) = nI 0) then none else aft false (d + 1) 27 202 [some (.ref 0), some (.int a1), some (.int a2), some (.int a3), some (.int a4), some (.int a5), some (.int a6), some (.int a7), some (.int a8), some (.int a9)] [] (Run false d 106 0 [some (.ref 60), some (.int a9), some (.int (nI 3)), some (.int ((((a2 * a6) / (nI 100)) * ((nI 100) - a7)) / (nI 100)))] [] σ))) := by
  rw [Run_go [6, 14, 21, 29, 37, 45, 53, 76, 90, 124, 150, 176, 202, 228] 17]
  rfl
set_option maxRecDepth 100000 in
theorem s27_202 {d : Nat} {a1 : Int32} {a2 : Int32} {a3 : Int32} {a4 : Int32} {a5 : Int32} {a6 : Int32} {a7 : Int32} {a8 : Int32} {a9 : Int32} {σ : PS} : Run false (d + 1) 27 202 [some (.ref 0), some (.int a1), some (.int a2), some (.int a3), some (.int a4), some (.int a5), some (.int a6), some (.int a7), some (.int a8), some (.int a9)] [] σ =
    (bif obl ((nI 100) = nI 0) then none else (bif obl ((nI 100) = nI 0) then none else aft false (d + 1) 27 228 [some (.ref 0), some (.int a1), some (.int a2), some (.int a3), some (.int a4), some (.int a5), some (.int a6), some (.int a7), some (.int a8), some (.int a9)] [] (Run false d 106 0 [some (.ref 60), some (.int a9), some (.int (nI 4)), some (.int ((((a2 * a8) / (nI 100)) * ((nI 100) - a7)) / (nI 100)))] [] σ))) := by
  rw [Run_go [6, 14, 21, 29, 37, 45, 53, 76, 90, 124, 150, 176, 202, 228] 17]
  rfl
theorem s27_228 {d : Nat} {a1 : Int32} {a2 : Int32} {a3 : Int32} {a4 : Int32} {a5 : Int32} {a6 : Int32} {a7 : Int32} {a8 : Int32} {a9 : Int32} {σ : PS} : Run false (d + 1) 27 228 [some (.ref 0), some (.int a1), some (.int a2), some (.int a3), some (.int a4), some (.int a5), some (.int a6), some (.int a7), some (.int a8), some (.int a9)] [] σ =
    some (.inl (some (.int a9), σ)) := by
  rw [Run_go [6, 14, 21, 29, 37, 45, 53, 76, 90, 124, 150, 176, 202, 228] 3]
  rfl
theorem s28_0 {d : Nat} {a1 : Int32} {a2 : Int32} {σ : PS} : Run false (d + 1) 28 0 [some (.ref 0), some (.int a1), some (.int a2)] [] σ =
    aft false (d + 1) 28 5 [some (.ref 0), some (.int a1), some (.int a2)] [] (Run false d 53 0 [some (.ref 0), some (.int a1)] [] σ) := by
  rw [Run_go [5, 12, 26] 4]
  rfl
theorem s28_5 {d : Nat} {a1 : Int32} {a2 : Int32} {σ : PS} : Run false (d + 1) 28 5 [some (.ref 0), some (.int a1), some (.int a2)] [] σ =
    aft false (d + 1) 28 12 [some (.ref 0), some (.int a1), some (.int a2)] [] (Run false d 42 0 [some (.int a2), some (.int (nI 0)), some (.int (nI 6))] [] σ) := by
  rw [Run_go [5, 12, 26] 5]
  rfl
set_option maxRecDepth 100000 in
theorem s28_12 {d : Nat} {a1 : Int32} {a2 : Int32} {σ : PS} : Run false (d + 1) 28 12 [some (.ref 0), some (.int a1), some (.int a2)] [] σ =
    (bif obl ((nI 5) ≤ a2) then (bif obl (a2 = (nI 5)) then (bif inb a1 60 then some (.inl (some (.int (AI σ 62 a1.toNatClampNeg)), σ)) else none) else (bif inb a1 60 then some (.inl (some (.int (AI σ 61 a1.toNatClampNeg)), σ)) else none)) else aft false (d + 1) 28 26 [some (.ref 0), some (.int a1), some (.int a2)] [] (Run false d 107 0 [some (.ref 60), some (.int a1), some (.int a2)] [] σ)) := by
  rw [Run_go [5, 12, 26] 14]
  rfl
theorem s28_26 {d : Nat} {a1 : Int32} {a2 : Int32} {r0 : Int32} {σ : PS} : Run false (d + 1) 28 26 [some (.ref 0), some (.int a1), some (.int a2)] [.int r0] σ =
    some (.inl (some (.int r0), σ)) := by
  rw [Run_go [5, 12, 26] 2]
  rfl
theorem s29_0 {d : Nat} {a1 : Int32} {a2 : Int32} {a3 : Int32} {a4 : Int32} {σ : PS} : Run false (d + 1) 29 0 [some (.ref 0), some (.int a1), some (.int a2), some (.int a3), some (.int a4)] [] σ =
    aft false (d + 1) 29 5 [some (.ref 0), some (.int a1), some (.int a2), some (.int a3), some (.int a4)] [] (Run false d 53 0 [some (.ref 0), some (.int a1)] [] σ) := by
  rw [Run_go [5, 11, 15, 23, 39] 4]
  rfl
theorem s29_5 {d : Nat} {a1 : Int32} {a2 : Int32} {a3 : Int32} {a4 : Int32} {σ : PS} : Run false (d + 1) 29 5 [some (.ref 0), some (.int a1), some (.int a2), some (.int a3), some (.int a4)] [] σ =
    aft false (d + 1) 29 11 [some (.ref 0), some (.int a1), some (.int a2), some (.int a3), some (.int a4)] [] (Run false d 51 0 [some (.ref 0), some (.int a4)] [] σ) := by
  rw [Run_go [5, 11, 15, 23, 39] 4]
  rfl
theorem s29_11 {d : Nat} {a1 : Int32} {a2 : Int32} {a3 : Int32} {a4 : Int32} {σ : PS} : Run false (d + 1) 29 11 [some (.ref 0), some (.int a1), some (.int a2), some (.int a3), some (.int a4)] [] σ =
    aft false (d + 1) 29 15 [some (.ref 0), some (.int a1), some (.int a2), some (.int a3), some (.int a4)] [] (Run false d 44 0 [some (.int a2)] [] σ) := by
  rw [Run_go [5, 11, 15, 23, 39] 3]
  rfl
theorem s29_15 {d : Nat} {a1 : Int32} {a2 : Int32} {a3 : Int32} {a4 : Int32} {σ : PS} : Run false (d + 1) 29 15 [some (.ref 0), some (.int a1), some (.int a2), some (.int a3), some (.int a4)] [] σ =
    aft false (d + 1) 29 23 [some (.ref 0), some (.int a1), some (.int a2), some (.int a3), some (.int a4)] [] (Run false d 42 0 [some (.int a3), some (.int (nI 1)), some (.int (nI 20000))] [] σ) := by
  rw [Run_go [5, 11, 15, 23, 39] 5]
  rfl
set_option maxRecDepth 100000 in
theorem s29_23 {d : Nat} {a1 : Int32} {a2 : Int32} {a3 : Int32} {a4 : Int32} {σ : PS} : Run false (d + 1) 29 23 [some (.ref 0), some (.int a1), some (.int a2), some (.int a3), some (.int a4)] [] σ =
    aft false (d + 1) 29 39 [some (.ref 0), some (.int a1), some (.int a2), some (.int a3), some (.int a4)] [] (Run false d 110 0 [some (.ref 60), some (.int a1), some (.int a2), some (.int a3), some (.int a4), some (.int (FI σ 0 0))] [] σ) := by
  rw [Run_go [5, 11, 15, 23, 39] 10]
  rfl
theorem s29_39 {d : Nat} {a1 : Int32} {a2 : Int32} {a3 : Int32} {a4 : Int32} {r0 : Int32} {σ : PS} : Run false (d + 1) 29 39 [some (.ref 0), some (.int a1), some (.int a2), some (.int a3), some (.int a4)] [.int r0] σ =
    some (.inl (some (.int r0), σ)) := by
  rw [Run_go [5, 11, 15, 23, 39] 2]
  rfl
theorem s30_0 {d : Nat} {a1 : Int32} {σ : PS} : Run false (d + 1) 30 0 [some (.ref 0), some (.int a1)] [] σ =
    aft false (d + 1) 30 11 [some (.ref 0), some (.int a1)] [] (Run false d 46 0 [some (.int a1), some (.int (FI σ 60 1))] [] σ) := by
  rw [Run_go [11] 6]
  rfl
theorem s30_11 {d : Nat} {a1 : Int32} {σ : PS} : Run false (d + 1) 30 11 [some (.ref 0), some (.int a1)] [] σ =
    (bif inb a1 100 then (bif is01 (AI σ 65 a1.toNatClampNeg) then some (.inl (some (.int (AI σ 65 a1.toNatClampNeg)), σ)) else none) else none) := by
  rw [Run_go [11] 7]
  rfl
theorem s31_0 {d : Nat} {a1 : Int32} {a2 : Int32} {a3 : Int32} {σ : PS} : Run false (d + 1) 31 0 [some (.ref 0), some (.int a1), some (.int a2), some (.int a3), none, none, none] [] σ =
    aft false (d + 1) 31 5 [some (.ref 0), some (.int a1), some (.int a2), some (.int a3), none, none, none] [] (Run false d 52 0 [some (.ref 0), some (.int a3)] [] σ) := by
  rw [Run_go [5, 11, 15, 21, 51, 54, 80, 83, 113, 136] 4]
  rfl
theorem s31_5 {d : Nat} {a1 : Int32} {a2 : Int32} {a3 : Int32} {z4 : Option Value} {z5 : Option Value} {z6 : Option Value} {σ : PS} : Run false (d + 1) 31 5 [some (.ref 0), some (.int a1), some (.int a2), some (.int a3), z4, z5, z6] [] σ =
    aft false (d + 1) 31 11 [some (.ref 0), some (.int a1), some (.int a2), some (.int a3), z4, z5, z6] [] (Run false d 42 0 [some (.int a1), some (.int (nI 0)), some (.int (nI 5))] [] σ) := by
  rw [Run_go [5, 11, 15, 21, 51, 54, 80, 83, 113, 136] 5]
  rfl
theorem s31_11 {d : Nat} {a1 : Int32} {a2 : Int32} {a3 : Int32} {z4 : Option Value} {z5 : Option Value} {z6 : Option Value} {σ : PS} : Run false (d + 1) 31 11 [some (.ref 0), some (.int a1), some (.int a2), some (.int a3), z4, z5, z6] [] σ =
    aft false (d + 1) 31 15 [some (.ref 0), some (.int a1), some (.int a2), some (.int a3), z4, z5, z6] [] (Run false d 43 0 [some (.int a2)] [] σ) := by
  rw [Run_go [5, 11, 15, 21, 51, 54, 80, 83, 113, 136] 3]
  rfl
theorem s31_15 {d : Nat} {a1 : Int32} {a2 : Int32} {a3 : Int32} {z4 : Option Value} {z5 : Option Value} {z6 : Option Value} {σ : PS} : Run false (d + 1) 31 15 [some (.ref 0), some (.int a1), some (.int a2), some (.int a3), z4, z5, z6] [] σ =
    Run false (d + 1) 31 21 [some (.ref 0), some (.int a1), some (.int a2), some (.int a3), some (.long (lN 0)), none, some (.int (nI 0))] [] σ := by
  rw [Run_go [5, 11, 15, 21, 51, 54, 80, 83, 113, 136] 5]
  rfl
set_option maxRecDepth 100000 in
theorem s31_21 {d : Nat} {a1 : Int32} {a2 : Int32} {a3 : Int32} {b4 : Int64} {a6 : Int32} {σ : PS} : Run false (d + 1) 31 21 [some (.ref 0), some (.int a1), some (.int a2), some (.int a3), some (.long b4), none, some (.int a6)] [] σ =
    (bif obl ((nI 5) ≤ a6) then (bif obl (a3 = (-1 : Int32)) then some (.inl (some (.long b4), σ)) else aft false (d + 1) 31 80 [some (.ref 0), some (.int a1), some (.int a2), some (.int a3), some (.long b4), none, some (.int a6)] [] (Run false d 55 0 [some (.ref 0), some (.int a2), some (.int (FI σ 0 0)), none, none] [] σ)) else aft false (d + 1) 31 51 [some (.ref 0), some (.int a1), some (.int a2), some (.int a3), some (.long b4), none, some (.int a6)] [.int a6, .int a2, .int a1, .ref 60, .long b4] (Run false d 100 0 [some (.ref 1), some (.int (nI 213)), some (.int a6), some (.int a2), some (.int (nI 0)), none] [] σ)) := by
  rw [Run_go [5, 11, 15, 21, 51, 54, 80, 83, 113, 136] 17]
  rfl
theorem s31_51 {d : Nat} {a1 : Int32} {a2 : Int32} {a3 : Int32} {b4 : Int64} {a6 : Int32} {q0 : Int64} {r2 : Int32} {r3 : Int32} {r4 : Int32} {r5 : Int32} {σ : PS} : Run false (d + 1) 31 51 [some (.ref 0), some (.int a1), some (.int a2), some (.int a3), some (.long b4), none, some (.int a6)] [.int r5, .int r4, .int r3, .int r2, .ref 60, .long q0] σ =
    aft false (d + 1) 31 54 [some (.ref 0), some (.int a1), some (.int a2), some (.int a3), some (.long b4), none, some (.int a6)] [.long q0] (Run false d 109 0 [some (.ref 60), some (.int r2), some (.int r3), some (.int r4), some (.int r5), none, none, none] [] σ) := by
  rw [Run_go [5, 11, 15, 21, 51, 54, 80, 83, 113, 136] 2]
  rfl
theorem s31_54 {d : Nat} {a1 : Int32} {a2 : Int32} {a3 : Int32} {b4 : Int64} {a6 : Int32} {q0 : Int64} {q1 : Int64} {σ : PS} : Run false (d + 1) 31 54 [some (.ref 0), some (.int a1), some (.int a2), some (.int a3), some (.long b4), none, some (.int a6)] [.long q1, .long q0] σ =
    Run false (d + 1) 31 21 [some (.ref 0), some (.int a1), some (.int a2), some (.int a3), some (.long (q0 + q1)), none, some (.int (a6 + (nI 1)))] [] σ := by
  rw [Run_go [5, 11, 15, 21, 51, 54, 80, 83, 113, 136] 5]
  rfl
theorem s31_80 {d : Nat} {a1 : Int32} {a2 : Int32} {a3 : Int32} {b4 : Int64} {a6 : Int32} {σ : PS} : Run false (d + 1) 31 80 [some (.ref 0), some (.int a1), some (.int a2), some (.int a3), some (.long b4), none, some (.int a6)] [] σ =
    Run false (d + 1) 31 83 [some (.ref 0), some (.int a1), some (.int a2), some (.int a3), some (.long b4), none, some (.int (nI 0))] [] σ := by
  rw [Run_go [5, 11, 15, 21, 51, 54, 80, 83, 113, 136] 3]
  rfl
set_option maxRecDepth 100000 in
theorem s31_83 {d : Nat} {a1 : Int32} {a2 : Int32} {a3 : Int32} {b4 : Int64} {a6 : Int32} {σ : PS} : Run false (d + 1) 31 83 [some (.ref 0), some (.int a1), some (.int a2), some (.int a3), some (.long b4), none, some (.int a6)] [] σ =
    (bif obl ((FI σ 31 0) ≤ a6) then aft false (d + 1) 31 136 [some (.ref 0), some (.int a1), some (.int a2), some (.int a3), some (.long b4), none, some (.int a6)] [] (Run false d 89 0 [some (.ref 36), some (.long b4), none, some (.int (FI σ 31 0)), none, none, none, none, none] [] σ) else aft false (d + 1) 31 113 [some (.ref 0), some (.int a1), some (.int a2), some (.int a3), some (.long b4), none, some (.int a6)] [.int a6, .ref 40] (Run false d 87 0 [some (.ref 36), some (.int a6), none, none, none] [] σ)) := by
  rw [Run_go [5, 11, 15, 21, 51, 54, 80, 83, 113, 136] 14]
  rfl
theorem s31_113 {d : Nat} {a1 : Int32} {a2 : Int32} {a3 : Int32} {b4 : Int64} {a6 : Int32} {r1 : Int32} {q2 : Int64} {σ : PS} : Run false (d + 1) 31 113 [some (.ref 0), some (.int a1), some (.int a2), some (.int a3), some (.long b4), none, some (.int a6)] [.long q2, .int r1, .ref 40] σ =
    (bif inb r1 10 then Run false (d + 1) 31 83 [some (.ref 0), some (.int a1), some (.int a2), some (.int a3), some (.long b4), none, some (.int (a6 + (nI 1)))] [] (wAL σ 40 r1.toNatClampNeg q2) else none) := by
  rw [Run_go [5, 11, 15, 21, 51, 54, 80, 83, 113, 136] 4]
  rfl
theorem s31_136 {d : Nat} {a1 : Int32} {a2 : Int32} {a3 : Int32} {b4 : Int64} {a6 : Int32} {σ : PS} : Run false (d + 1) 31 136 [some (.ref 0), some (.int a1), some (.int a2), some (.int a3), some (.long b4), none, some (.int a6)] [] σ =
    (bif inb a3 10 then some (.inl (some (.long (AL σ 41 a3.toNatClampNeg)), σ)) else none) := by
  rw [Run_go [5, 11, 15, 21, 51, 54, 80, 83, 113, 136] 7]
  rfl
theorem s32_0 {d : Nat} {a1 : Int32} {a2 : Int32} {a3 : Int32} {σ : PS} : Run false (d + 1) 32 0 [some (.ref 0), some (.int a1), some (.int a2), some (.int a3)] [] σ =
    aft false (d + 1) 32 4 [some (.ref 0), some (.int a1), some (.int a2), some (.int a3)] [] (Run false d 44 0 [some (.int a1)] [] σ) := by
  rw [Run_go [4, 12, 20, 30] 3]
  rfl
theorem s32_4 {d : Nat} {a1 : Int32} {a2 : Int32} {a3 : Int32} {σ : PS} : Run false (d + 1) 32 4 [some (.ref 0), some (.int a1), some (.int a2), some (.int a3)] [] σ =
    aft false (d + 1) 32 12 [some (.ref 0), some (.int a1), some (.int a2), some (.int a3)] [] (Run false d 42 0 [some (.int a2), some (.int (nI 1)), some (.int (nI 100000))] [] σ) := by
  rw [Run_go [4, 12, 20, 30] 5]
  rfl
theorem s32_12 {d : Nat} {a1 : Int32} {a2 : Int32} {a3 : Int32} {σ : PS} : Run false (d + 1) 32 12 [some (.ref 0), some (.int a1), some (.int a2), some (.int a3)] [] σ =
    aft false (d + 1) 32 20 [some (.ref 0), some (.int a1), some (.int a2), some (.int a3)] [] (Run false d 42 0 [some (.int a3), some (.int (nI 0)), some (.int (nI 100000))] [] σ) := by
  rw [Run_go [4, 12, 20, 30] 5]
  rfl
theorem s32_20 {d : Nat} {a1 : Int32} {a2 : Int32} {a3 : Int32} {σ : PS} : Run false (d + 1) 32 20 [some (.ref 0), some (.int a1), some (.int a2), some (.int a3)] [] σ =
    aft false (d + 1) 32 30 [some (.ref 0), some (.int a1), some (.int a2), some (.int a3)] [] (Run false d 114 0 [some (.ref 71), some (.int a1), some (.int a2), some (.int a3)] [] σ) := by
  rw [Run_go [4, 12, 20, 30] 7]
  rfl
theorem s32_30 {d : Nat} {a1 : Int32} {a2 : Int32} {a3 : Int32} {r0 : Int32} {σ : PS} : Run false (d + 1) 32 30 [some (.ref 0), some (.int a1), some (.int a2), some (.int a3)] [.int r0] σ =
    some (.inl (some (.int r0), σ)) := by
  rw [Run_go [4, 12, 20, 30] 2]
  rfl
theorem s33_0 {d : Nat} {a1 : Int32} {a2 : Int32} {a3 : Int32} {a4 : Int32} {σ : PS} : Run false (d + 1) 33 0 [some (.ref 0), some (.int a1), some (.int a2), some (.int a3), some (.int a4), none] [] σ =
    aft false (d + 1) 33 5 [some (.ref 0), some (.int a1), some (.int a2), some (.int a3), some (.int a4), none] [] (Run false d 51 0 [some (.ref 0), some (.int a1)] [] σ) := by
  rw [Run_go [5, 9, 13, 20, 27, 50] 4]
  rfl
theorem s33_5 {d : Nat} {a1 : Int32} {a2 : Int32} {a3 : Int32} {a4 : Int32} {z5 : Option Value} {σ : PS} : Run false (d + 1) 33 5 [some (.ref 0), some (.int a1), some (.int a2), some (.int a3), some (.int a4), z5] [] σ =
    aft false (d + 1) 33 9 [some (.ref 0), some (.int a1), some (.int a2), some (.int a3), some (.int a4), z5] [] (Run false d 44 0 [some (.int a2)] [] σ) := by
  rw [Run_go [5, 9, 13, 20, 27, 50] 3]
  rfl
theorem s33_9 {d : Nat} {a1 : Int32} {a2 : Int32} {a3 : Int32} {a4 : Int32} {z5 : Option Value} {σ : PS} : Run false (d + 1) 33 9 [some (.ref 0), some (.int a1), some (.int a2), some (.int a3), some (.int a4), z5] [] σ =
    aft false (d + 1) 33 13 [some (.ref 0), some (.int a1), some (.int a2), some (.int a3), some (.int a4), z5] [] (Run false d 43 0 [some (.int a3)] [] σ) := by
  rw [Run_go [5, 9, 13, 20, 27, 50] 3]
  rfl
theorem s33_13 {d : Nat} {a1 : Int32} {a2 : Int32} {a3 : Int32} {a4 : Int32} {z5 : Option Value} {σ : PS} : Run false (d + 1) 33 13 [some (.ref 0), some (.int a1), some (.int a2), some (.int a3), some (.int a4), z5] [] σ =
    aft false (d + 1) 33 20 [some (.ref 0), some (.int a1), some (.int a2), some (.int a3), some (.int a4), z5] [] (Run false d 42 0 [some (.int a4), some (.int (nI 0)), some (.int (nI 1))] [] σ) := by
  rw [Run_go [5, 9, 13, 20, 27, 50] 5]
  rfl
theorem s33_20 {d : Nat} {a1 : Int32} {a2 : Int32} {a3 : Int32} {a4 : Int32} {z5 : Option Value} {σ : PS} : Run false (d + 1) 33 20 [some (.ref 0), some (.int a1), some (.int a2), some (.int a3), some (.int a4), z5] [] σ =
    aft false (d + 1) 33 27 [some (.ref 0), some (.int a1), some (.int a2), some (.int a3), some (.int a4), z5] [] (Run false d 68 0 [some (.ref 0), some (.int a1), some (.int a2), some (.int a3), none, none] [] σ) := by
  rw [Run_go [5, 9, 13, 20, 27, 50] 6]
  rfl
set_option maxRecDepth 100000 in
theorem s33_27 {d : Nat} {a1 : Int32} {a2 : Int32} {a3 : Int32} {a4 : Int32} {z5 : Option Value} {r0 : Int32} {σ : PS} : Run false (d + 1) 33 27 [some (.ref 0), some (.int a1), some (.int a2), some (.int a3), some (.int a4), z5] [.int r0] σ =
    (bif obl ((nI 0) ≤ r0) then (bif obl (a4 = (nI 0)) then aft false (d + 1) 33 50 [some (.ref 0), some (.int a1), some (.int a2), some (.int a3), some (.int a4), some (.int r0)] [] (Run false d 116 0 [some (.ref 71), some (.int r0), none, none] [] σ) else some (.inl (some (.int r0), σ))) else some (.inl (some (.int (-1 : Int32)), σ))) := by
  rw [Run_go [5, 9, 13, 20, 27, 50] 10]
  rfl
theorem s33_50 {d : Nat} {a1 : Int32} {a2 : Int32} {a3 : Int32} {a4 : Int32} {a5 : Int32} {r0 : Int32} {σ : PS} : Run false (d + 1) 33 50 [some (.ref 0), some (.int a1), some (.int a2), some (.int a3), some (.int a4), some (.int a5)] [.int r0] σ =
    some (.inl (some (.int r0), σ)) := by
  rw [Run_go [5, 9, 13, 20, 27, 50] 3]
  rfl
theorem s34_0 {d : Nat} {a1 : Int32} {a2 : Int32} {a3 : Int32} {σ : PS} : Run false (d + 1) 34 0 [some (.ref 0), some (.int a1), some (.int a2), some (.int a3), none, none] [] σ =
    aft false (d + 1) 34 5 [some (.ref 0), some (.int a1), some (.int a2), some (.int a3), none, none] [] (Run false d 51 0 [some (.ref 0), some (.int a1)] [] σ) := by
  rw [Run_go [5, 9, 13, 20, 38, 55] 4]
  rfl
theorem s34_5 {d : Nat} {a1 : Int32} {a2 : Int32} {a3 : Int32} {z4 : Option Value} {z5 : Option Value} {σ : PS} : Run false (d + 1) 34 5 [some (.ref 0), some (.int a1), some (.int a2), some (.int a3), z4, z5] [] σ =
    aft false (d + 1) 34 9 [some (.ref 0), some (.int a1), some (.int a2), some (.int a3), z4, z5] [] (Run false d 44 0 [some (.int a2)] [] σ) := by
  rw [Run_go [5, 9, 13, 20, 38, 55] 3]
  rfl
theorem s34_9 {d : Nat} {a1 : Int32} {a2 : Int32} {a3 : Int32} {z4 : Option Value} {z5 : Option Value} {σ : PS} : Run false (d + 1) 34 9 [some (.ref 0), some (.int a1), some (.int a2), some (.int a3), z4, z5] [] σ =
    aft false (d + 1) 34 13 [some (.ref 0), some (.int a1), some (.int a2), some (.int a3), z4, z5] [] (Run false d 43 0 [some (.int a3)] [] σ) := by
  rw [Run_go [5, 9, 13, 20, 38, 55] 3]
  rfl
theorem s34_13 {d : Nat} {a1 : Int32} {a2 : Int32} {a3 : Int32} {z4 : Option Value} {z5 : Option Value} {σ : PS} : Run false (d + 1) 34 13 [some (.ref 0), some (.int a1), some (.int a2), some (.int a3), z4, z5] [] σ =
    aft false (d + 1) 34 20 [some (.ref 0), some (.int a1), some (.int a2), some (.int a3), z4, z5] [] (Run false d 68 0 [some (.ref 0), some (.int a1), some (.int a2), some (.int a3), none, none] [] σ) := by
  rw [Run_go [5, 9, 13, 20, 38, 55] 6]
  rfl
set_option maxRecDepth 100000 in
theorem s34_20 {d : Nat} {a1 : Int32} {a2 : Int32} {a3 : Int32} {z4 : Option Value} {z5 : Option Value} {r0 : Int32} {σ : PS} : Run false (d + 1) 34 20 [some (.ref 0), some (.int a1), some (.int a2), some (.int a3), z4, z5] [.int r0] σ =
    (bif obl ((nI 0) ≤ r0) then aft false (d + 1) 34 38 [some (.ref 0), some (.int a1), some (.int a2), some (.int a3), some (.int r0), z5] [] (Run false d 116 0 [some (.ref 71), some (.int r0), none, none] [] σ) else some (.inl (some (.int (-1 : Int32)), σ))) := by
  rw [Run_go [5, 9, 13, 20, 38, 55] 8]
  rfl
set_option maxRecDepth 100000 in
theorem s34_38 {d : Nat} {a1 : Int32} {a2 : Int32} {a3 : Int32} {a4 : Int32} {z5 : Option Value} {r0 : Int32} {σ : PS} : Run false (d + 1) 34 38 [some (.ref 0), some (.int a1), some (.int a2), some (.int a3), some (.int a4), z5] [.int r0] σ =
    aft false (d + 1) 34 55 [some (.ref 0), some (.int a1), some (.int a2), some (.int a3), some (.int a4), some (.int r0)] [] (Run false d 117 0 [some (.ref 71), some (.int a4), some (.int a1), some (.int a3), some (.int (FI σ 0 0)), none] [] σ) := by
  rw [Run_go [5, 9, 13, 20, 38, 55] 10]
  rfl
set_option maxRecDepth 100000 in
theorem s34_55 {d : Nat} {a1 : Int32} {a2 : Int32} {a3 : Int32} {a4 : Int32} {a5 : Int32} {σ : PS} : Run false (d + 1) 34 55 [some (.ref 0), some (.int a1), some (.int a2), some (.int a3), some (.int a4), some (.int a5)] [] σ =
    (bif inb a1 4 then (bif inb a1 4 then some (.inl (some (.int a5), (wAI σ 32 a1.toNatClampNeg ((AI σ 32 a1.toNatClampNeg) + a5)))) else none) else none) := by
  rw [Run_go [5, 9, 13, 20, 38, 55] 12]
  rfl
theorem s35_0 {d : Nat} {a1 : Int32} {σ : PS} : Run false (d + 1) 35 0 [some (.ref 0), some (.int a1)] [] σ =
    aft false (d + 1) 35 5 [some (.ref 0), some (.int a1)] [] (Run false d 51 0 [some (.ref 0), some (.int a1)] [] σ) := by
  rw [Run_go [5] 4]
  rfl
theorem s35_5 {d : Nat} {a1 : Int32} {σ : PS} : Run false (d + 1) 35 5 [some (.ref 0), some (.int a1)] [] σ =
    (bif inb a1 4 then some (.inl (some (.int (AI σ 32 a1.toNatClampNeg)), σ)) else none) := by
  rw [Run_go [5] 7]
  rfl
theorem s36_0 {d : Nat} {a1 : Int32} {a2 : Int32} {a3 : Int32} {a4 : Int32} {a5 : Int32} {σ : PS} : Run false (d + 1) 36 0 [some (.ref 0), some (.int a1), some (.int a2), some (.int a3), some (.int a4), some (.int a5)] [] σ =
    aft false (d + 1) 36 5 [some (.ref 0), some (.int a1), some (.int a2), some (.int a3), some (.int a4), some (.int a5)] [] (Run false d 48 0 [some (.ref 0), some (.int a1)] [] σ) := by
  rw [Run_go [5, 9, 18, 27, 35, 52] 4]
  rfl
theorem s36_5 {d : Nat} {a1 : Int32} {a2 : Int32} {a3 : Int32} {a4 : Int32} {a5 : Int32} {σ : PS} : Run false (d + 1) 36 5 [some (.ref 0), some (.int a1), some (.int a2), some (.int a3), some (.int a4), some (.int a5)] [] σ =
    aft false (d + 1) 36 9 [some (.ref 0), some (.int a1), some (.int a2), some (.int a3), some (.int a4), some (.int a5)] [] (Run false d 44 0 [some (.int a2)] [] σ) := by
  rw [Run_go [5, 9, 18, 27, 35, 52] 3]
  rfl
theorem s36_9 {d : Nat} {a1 : Int32} {a2 : Int32} {a3 : Int32} {a4 : Int32} {a5 : Int32} {σ : PS} : Run false (d + 1) 36 9 [some (.ref 0), some (.int a1), some (.int a2), some (.int a3), some (.int a4), some (.int a5)] [] σ =
    aft false (d + 1) 36 18 [some (.ref 0), some (.int a1), some (.int a2), some (.int a3), some (.int a4), some (.int a5)] [] (Run false d 42 0 [some (.int a3), some (.int (nI 0)), some (.int (FI σ 0 0))] [] σ) := by
  rw [Run_go [5, 9, 18, 27, 35, 52] 6]
  rfl
theorem s36_18 {d : Nat} {a1 : Int32} {a2 : Int32} {a3 : Int32} {a4 : Int32} {a5 : Int32} {σ : PS} : Run false (d + 1) 36 18 [some (.ref 0), some (.int a1), some (.int a2), some (.int a3), some (.int a4), some (.int a5)] [] σ =
    aft false (d + 1) 36 27 [some (.ref 0), some (.int a1), some (.int a2), some (.int a3), some (.int a4), some (.int a5)] [] (Run false d 42 0 [some (.int a4), some (.int (nI 1)), some (.int (nI 1000))] [] σ) := by
  rw [Run_go [5, 9, 18, 27, 35, 52] 5]
  rfl
theorem s36_27 {d : Nat} {a1 : Int32} {a2 : Int32} {a3 : Int32} {a4 : Int32} {a5 : Int32} {σ : PS} : Run false (d + 1) 36 27 [some (.ref 0), some (.int a1), some (.int a2), some (.int a3), some (.int a4), some (.int a5)] [] σ =
    aft false (d + 1) 36 35 [some (.ref 0), some (.int a1), some (.int a2), some (.int a3), some (.int a4), some (.int a5)] [] (Run false d 42 0 [some (.int a5), some (.int (nI 0)), some (.int a4)] [] σ) := by
  rw [Run_go [5, 9, 18, 27, 35, 52] 5]
  rfl
set_option maxRecDepth 100000 in
theorem s36_35 {d : Nat} {a1 : Int32} {a2 : Int32} {a3 : Int32} {a4 : Int32} {a5 : Int32} {σ : PS} : Run false (d + 1) 36 35 [some (.ref 0), some (.int a1), some (.int a2), some (.int a3), some (.int a4), some (.int a5)] [] σ =
    aft false (d + 1) 36 52 [some (.ref 0), some (.int a1), some (.int a2), some (.int a3), some (.int a4), some (.int a5)] [] (Run false d 155 0 [some (.ref 78), some (.int ((a1 * (nI 5)) + a2)), some (.int a3), some (.int a4), some (.int a5)] [] σ) := by
  rw [Run_go [5, 9, 18, 27, 35, 52] 12]
  rfl
theorem s36_52 {d : Nat} {a1 : Int32} {a2 : Int32} {a3 : Int32} {a4 : Int32} {a5 : Int32} {r0 : Int32} {σ : PS} : Run false (d + 1) 36 52 [some (.ref 0), some (.int a1), some (.int a2), some (.int a3), some (.int a4), some (.int a5)] [.int r0] σ =
    some (.inl (some (.int r0), σ)) := by
  rw [Run_go [5, 9, 18, 27, 35, 52] 2]
  rfl
theorem s37_0 {d : Nat} {a1 : Int32} {a2 : Int32} {a3 : Int32} {a4 : Int32} {σ : PS} : Run false (d + 1) 37 0 [some (.ref 0), some (.int a1), some (.int a2), some (.int a3), some (.int a4), none] [] σ =
    aft false (d + 1) 37 5 [some (.ref 0), some (.int a1), some (.int a2), some (.int a3), some (.int a4), none] [] (Run false d 48 0 [some (.ref 0), some (.int a1)] [] σ) := by
  rw [Run_go [5, 9, 13, 20, 29, 51, 69] 4]
  rfl
theorem s37_5 {d : Nat} {a1 : Int32} {a2 : Int32} {a3 : Int32} {a4 : Int32} {z5 : Option Value} {σ : PS} : Run false (d + 1) 37 5 [some (.ref 0), some (.int a1), some (.int a2), some (.int a3), some (.int a4), z5] [] σ =
    aft false (d + 1) 37 9 [some (.ref 0), some (.int a1), some (.int a2), some (.int a3), some (.int a4), z5] [] (Run false d 44 0 [some (.int a2)] [] σ) := by
  rw [Run_go [5, 9, 13, 20, 29, 51, 69] 3]
  rfl
theorem s37_9 {d : Nat} {a1 : Int32} {a2 : Int32} {a3 : Int32} {a4 : Int32} {z5 : Option Value} {σ : PS} : Run false (d + 1) 37 9 [some (.ref 0), some (.int a1), some (.int a2), some (.int a3), some (.int a4), z5] [] σ =
    aft false (d + 1) 37 13 [some (.ref 0), some (.int a1), some (.int a2), some (.int a3), some (.int a4), z5] [] (Run false d 43 0 [some (.int a3)] [] σ) := by
  rw [Run_go [5, 9, 13, 20, 29, 51, 69] 3]
  rfl
theorem s37_13 {d : Nat} {a1 : Int32} {a2 : Int32} {a3 : Int32} {a4 : Int32} {z5 : Option Value} {σ : PS} : Run false (d + 1) 37 13 [some (.ref 0), some (.int a1), some (.int a2), some (.int a3), some (.int a4), z5] [] σ =
    aft false (d + 1) 37 20 [some (.ref 0), some (.int a1), some (.int a2), some (.int a3), some (.int a4), z5] [] (Run false d 42 0 [some (.int a4), some (.int (nI 0)), some (.int (nI 1))] [] σ) := by
  rw [Run_go [5, 9, 13, 20, 29, 51, 69] 5]
  rfl
theorem s37_20 {d : Nat} {a1 : Int32} {a2 : Int32} {a3 : Int32} {a4 : Int32} {z5 : Option Value} {σ : PS} : Run false (d + 1) 37 20 [some (.ref 0), some (.int a1), some (.int a2), some (.int a3), some (.int a4), z5] [] σ =
    aft false (d + 1) 37 29 [some (.ref 0), some (.int a1), some (.int a2), some (.int a3), some (.int a4), z5] [] (Run false d 108 0 [some (.ref 60), some (.int a2), some (.int a3), none, none] [] σ) := by
  rw [Run_go [5, 9, 13, 20, 29, 51, 69] 6]
  rfl
set_option maxRecDepth 100000 in
theorem s37_29 {d : Nat} {a1 : Int32} {a2 : Int32} {a3 : Int32} {a4 : Int32} {z5 : Option Value} {r0 : Int32} {σ : PS} : Run false (d + 1) 37 29 [some (.ref 0), some (.int a1), some (.int a2), some (.int a3), some (.int a4), z5] [.int r0] σ =
    (bif obl (a4 = (nI 0)) then aft false (d + 1) 37 51 [some (.ref 0), some (.int a1), some (.int a2), some (.int a3), some (.int a4), some (.int r0)] [] (Run false d 158 0 [some (.ref 78), some (.int ((a1 * (nI 5)) + a2)), some (.int a3), some (.int r0)] [] σ) else aft false (d + 1) 37 69 [some (.ref 0), some (.int a1), some (.int a2), some (.int a3), some (.int a4), some (.int r0)] [] (Run false d 159 0 [some (.ref 78), some (.int ((a1 * (nI 5)) + a2)), some (.int a3), some (.int r0)] [] σ)) := by
  rw [Run_go [5, 9, 13, 20, 29, 51, 69] 14]
  rfl
theorem s37_51 {d : Nat} {a1 : Int32} {a2 : Int32} {a3 : Int32} {a4 : Int32} {a5 : Int32} {r0 : Int32} {σ : PS} : Run false (d + 1) 37 51 [some (.ref 0), some (.int a1), some (.int a2), some (.int a3), some (.int a4), some (.int a5)] [.int r0] σ =
    Run false (d + 1) 37 69 [some (.ref 0), some (.int a1), some (.int a2), some (.int a3), some (.int a4), some (.int a5)] [.int r0] σ := by
  rw [Run_go [5, 9, 13, 20, 29, 51, 69] 2]
  rfl
theorem s37_69 {d : Nat} {a1 : Int32} {a2 : Int32} {a3 : Int32} {a4 : Int32} {a5 : Int32} {r0 : Int32} {σ : PS} : Run false (d + 1) 37 69 [some (.ref 0), some (.int a1), some (.int a2), some (.int a3), some (.int a4), some (.int a5)] [.int r0] σ =
    some (.inl (some (.int r0), σ)) := by
  rw [Run_go [5, 9, 13, 20, 29, 51, 69] 2]
  rfl
theorem s38_0 {d : Nat} {a1 : Int32} {a2 : Int32} {a3 : Int32} {σ : PS} : Run false (d + 1) 38 0 [some (.ref 0), some (.int a1), some (.int a2), some (.int a3)] [] σ =
    aft false (d + 1) 38 5 [some (.ref 0), some (.int a1), some (.int a2), some (.int a3)] [] (Run false d 48 0 [some (.ref 0), some (.int a1)] [] σ) := by
  rw [Run_go [5, 9, 13, 22, 29] 4]
  rfl
theorem s38_5 {d : Nat} {a1 : Int32} {a2 : Int32} {a3 : Int32} {σ : PS} : Run false (d + 1) 38 5 [some (.ref 0), some (.int a1), some (.int a2), some (.int a3)] [] σ =
    aft false (d + 1) 38 9 [some (.ref 0), some (.int a1), some (.int a2), some (.int a3)] [] (Run false d 44 0 [some (.int a2)] [] σ) := by
  rw [Run_go [5, 9, 13, 22, 29] 3]
  rfl
theorem s38_9 {d : Nat} {a1 : Int32} {a2 : Int32} {a3 : Int32} {σ : PS} : Run false (d + 1) 38 9 [some (.ref 0), some (.int a1), some (.int a2), some (.int a3)] [] σ =
    aft false (d + 1) 38 13 [some (.ref 0), some (.int a1), some (.int a2), some (.int a3)] [] (Run false d 43 0 [some (.int a3)] [] σ) := by
  rw [Run_go [5, 9, 13, 22, 29] 3]
  rfl
theorem s38_13 {d : Nat} {a1 : Int32} {a2 : Int32} {a3 : Int32} {σ : PS} : Run false (d + 1) 38 13 [some (.ref 0), some (.int a1), some (.int a2), some (.int a3)] [] σ =
    aft false (d + 1) 38 22 [some (.ref 0), some (.int a1), some (.int a2), some (.int a3)] [] (Run false d 55 0 [some (.ref 0), some (.int a3), some (.int (FI σ 0 0)), none, none] [] σ) := by
  rw [Run_go [5, 9, 13, 22, 29] 6]
  rfl
theorem s38_22 {d : Nat} {a1 : Int32} {a2 : Int32} {a3 : Int32} {σ : PS} : Run false (d + 1) 38 22 [some (.ref 0), some (.int a1), some (.int a2), some (.int a3)] [] σ =
    aft false (d + 1) 38 29 [some (.ref 0), some (.int a1), some (.int a2), some (.int a3)] [] (Run false d 69 0 [some (.ref 0), some (.int a1), some (.int a2), some (.int a3), none] [] σ) := by
  rw [Run_go [5, 9, 13, 22, 29] 6]
  rfl
theorem s38_29 {d : Nat} {a1 : Int32} {a2 : Int32} {a3 : Int32} {r0 : Int32} {σ : PS} : Run false (d + 1) 38 29 [some (.ref 0), some (.int a1), some (.int a2), some (.int a3)] [.int r0] σ =
    some (.inl (some (.int r0), σ)) := by
  rw [Run_go [5, 9, 13, 22, 29] 2]
  rfl
theorem s39_0 {d : Nat} {a1 : Int32} {σ : PS} : Run false (d + 1) 39 0 [some (.ref 0), some (.int a1), none, none, none, none, none] [] σ =
    aft false (d + 1) 39 4 [some (.ref 0), some (.int a1), none, none, none, none, none] [] (Run false d 43 0 [some (.int a1)] [] σ) := by
  rw [Run_go [4, 13, 20, 32, 47] 3]
  rfl
theorem s39_4 {d : Nat} {a1 : Int32} {z2 : Option Value} {z3 : Option Value} {z4 : Option Value} {z5 : Option Value} {z6 : Option Value} {σ : PS} : Run false (d + 1) 39 4 [some (.ref 0), some (.int a1), z2, z3, z4, z5, z6] [] σ =
    aft false (d + 1) 39 13 [some (.ref 0), some (.int a1), z2, z3, z4, z5, z6] [] (Run false d 55 0 [some (.ref 0), some (.int a1), some (.int (FI σ 0 0)), none, none] [] σ) := by
  rw [Run_go [4, 13, 20, 32, 47] 6]
  rfl
theorem s39_13 {d : Nat} {a1 : Int32} {z2 : Option Value} {z3 : Option Value} {z4 : Option Value} {z5 : Option Value} {z6 : Option Value} {σ : PS} : Run false (d + 1) 39 13 [some (.ref 0), some (.int a1), z2, z3, z4, z5, z6] [] σ =
    Run false (d + 1) 39 20 [some (.ref 0), some (.int a1), some (.int (nI 0)), some (.int (-1 : Int32)), some (.int (nI 0)), z5, z6] [] σ := by
  rw [Run_go [4, 13, 20, 32, 47] 7]
  rfl
theorem s39_20 {d : Nat} {a1 : Int32} {a2 : Int32} {a3 : Int32} {a4 : Int32} {z5 : Option Value} {z6 : Option Value} {σ : PS} : Run false (d + 1) 39 20 [some (.ref 0), some (.int a1), some (.int a2), some (.int a3), some (.int a4), z5, z6] [] σ =
    (bif obl ((FI σ 0 1) ≤ a4) then some (.inl (some (.int a3), σ)) else Run false (d + 1) 39 32 [some (.ref 0), some (.int a1), some (.int a2), some (.int a3), some (.int a4), some (.int (nI 0)), z6] [] σ) := by
  rw [Run_go [4, 13, 20, 32, 47] 7]
  rfl
set_option maxRecDepth 100000 in
theorem s39_32 {d : Nat} {a1 : Int32} {a2 : Int32} {a3 : Int32} {a4 : Int32} {a5 : Int32} {z6 : Option Value} {σ : PS} : Run false (d + 1) 39 32 [some (.ref 0), some (.int a1), some (.int a2), some (.int a3), some (.int a4), some (.int a5), z6] [] σ =
    (bif obl ((nI 5) ≤ a5) then Run false (d + 1) 39 20 [some (.ref 0), some (.int a1), some (.int a2), some (.int a3), some (.int (a4 + (nI 1))), some (.int a5), z6] [] σ else aft false (d + 1) 39 47 [some (.ref 0), some (.int a1), some (.int a2), some (.int a3), some (.int a4), some (.int a5), z6] [] (Run false d 69 0 [some (.ref 0), some (.int a4), some (.int a5), some (.int a1), none] [] σ)) := by
  rw [Run_go [4, 13, 20, 32, 47] 9]
  rfl
set_option maxRecDepth 100000 in
theorem s39_47 {d : Nat} {a1 : Int32} {a2 : Int32} {a3 : Int32} {a4 : Int32} {a5 : Int32} {z6 : Option Value} {r0 : Int32} {σ : PS} : Run false (d + 1) 39 47 [some (.ref 0), some (.int a1), some (.int a2), some (.int a3), some (.int a4), some (.int a5), z6] [.int r0] σ =
    (bif obl (r0 ≤ a2) then Run false (d + 1) 39 32 [some (.ref 0), some (.int a1), some (.int a2), some (.int a3), some (.int a4), some (.int (a5 + (nI 1))), some (.int r0)] [] σ else Run false (d + 1) 39 32 [some (.ref 0), some (.int a1), some (.int r0), some (.int (((nI 10) * a4) + a5)), some (.int a4), some (.int (a5 + (nI 1))), some (.int r0)] [] σ) := by
  rw [Run_go [4, 13, 20, 32, 47] 15]
  rfl
theorem s40_0 {d : Nat} {a1 : Int32} {a2 : Int32} {σ : PS} : Run false (d + 1) 40 0 [some (.ref 0), some (.int a1), some (.int a2), none, none, none, none] [] σ =
    aft false (d + 1) 40 5 [some (.ref 0), some (.int a1), some (.int a2), none, none, none, none] [] (Run false d 48 0 [some (.ref 0), some (.int a1)] [] σ) := by
  rw [Run_go [5, 9, 17, 44, 47] 4]
  rfl
theorem s40_5 {d : Nat} {a1 : Int32} {a2 : Int32} {z3 : Option Value} {z4 : Option Value} {z5 : Option Value} {z6 : Option Value} {σ : PS} : Run false (d + 1) 40 5 [some (.ref 0), some (.int a1), some (.int a2), z3, z4, z5, z6] [] σ =
    aft false (d + 1) 40 9 [some (.ref 0), some (.int a1), some (.int a2), z3, z4, z5, z6] [] (Run false d 43 0 [some (.int a2)] [] σ) := by
  rw [Run_go [5, 9, 17, 44, 47] 3]
  rfl
theorem s40_9 {d : Nat} {a1 : Int32} {a2 : Int32} {z3 : Option Value} {z4 : Option Value} {z5 : Option Value} {z6 : Option Value} {σ : PS} : Run false (d + 1) 40 9 [some (.ref 0), some (.int a1), some (.int a2), z3, z4, z5, z6] [] σ =
    Run false (d + 1) 40 17 [some (.ref 0), some (.int a1), some (.int a2), some (.int (-1 : Int32)), some (.int (nI 0)), some (.int (nI 0)), z6] [] σ := by
  rw [Run_go [5, 9, 17, 44, 47] 7]
  rfl
set_option maxRecDepth 100000 in
theorem s40_17 {d : Nat} {a1 : Int32} {a2 : Int32} {a3 : Int32} {a4 : Int32} {a5 : Int32} {z6 : Option Value} {σ : PS} : Run false (d + 1) 40 17 [some (.ref 0), some (.int a1), some (.int a2), some (.int a3), some (.int a4), some (.int a5), z6] [] σ =
    (bif obl ((nI 5) ≤ a5) then some (.inl (some (.int a4), σ)) else aft false (d + 1) 40 44 [some (.ref 0), some (.int a1), some (.int a2), some (.int a3), some (.int a4), some (.int a5), z6] [.int a2, .int ((a1 * (nI 5)) + a5), .ref 78] (Run false d 108 0 [some (.ref 60), some (.int a5), some (.int a2), none, none] [] σ)) := by
  rw [Run_go [5, 9, 17, 44, 47] 17]
  rfl
theorem s40_44 {d : Nat} {a1 : Int32} {a2 : Int32} {a3 : Int32} {a4 : Int32} {a5 : Int32} {z6 : Option Value} {r1 : Int32} {r2 : Int32} {r3 : Int32} {σ : PS} : Run false (d + 1) 40 44 [some (.ref 0), some (.int a1), some (.int a2), some (.int a3), some (.int a4), some (.int a5), z6] [.int r3, .int r2, .int r1, .ref 78] σ =
    aft false (d + 1) 40 47 [some (.ref 0), some (.int a1), some (.int a2), some (.int a3), some (.int a4), some (.int a5), z6] [] (Run false d 160 0 [some (.ref 78), some (.int r1), some (.int r2), some (.int r3), none] [] σ) := by
  rw [Run_go [5, 9, 17, 44, 47] 2]
  rfl
set_option maxRecDepth 100000 in
theorem s40_47 {d : Nat} {a1 : Int32} {a2 : Int32} {a3 : Int32} {a4 : Int32} {a5 : Int32} {z6 : Option Value} {r0 : Int32} {σ : PS} : Run false (d + 1) 40 47 [some (.ref 0), some (.int a1), some (.int a2), some (.int a3), some (.int a4), some (.int a5), z6] [.int r0] σ =
    (bif obl (r0 ≤ a3) then Run false (d + 1) 40 17 [some (.ref 0), some (.int a1), some (.int a2), some (.int a3), some (.int a4), some (.int (a5 + (nI 1))), some (.int r0)] [] σ else Run false (d + 1) 40 17 [some (.ref 0), some (.int a1), some (.int a2), some (.int r0), some (.int a5), some (.int (a5 + (nI 1))), some (.int r0)] [] σ) := by
  rw [Run_go [5, 9, 17, 44, 47] 11]
  rfl
theorem s41_0 {d : Nat} {a1 : Int32} {σ : PS} : Run false (d + 1) 41 0 [some (.ref 0), some (.int a1)] [] σ =
    Run false (d + 1) 41 (tswF 1 165 0 12 #[67, 72, 80, 85, 93, 101, 109, 117, 125, 133, 141, 149, 157] a1) [some (.ref 0), some (.int a1)] [] σ := by
  rw [Run_go [68, 73, 81, 86, 94, 102, 110, 118, 126, 134, 141, 142, 150, 158, 166] 3]
  rfl
theorem s41_68 {d : Nat} {a1 : Int32} {σ : PS} : Run false (d + 1) 41 68 [some (.ref 0), some (.int a1)] [] σ =
    some (.inl (some (.int (FI σ 0 0)), σ)) := by
  rw [Run_go [68, 73, 81, 86, 94, 102, 110, 118, 126, 134, 141, 142, 150, 158, 166] 4]
  rfl
theorem s41_73 {d : Nat} {a1 : Int32} {σ : PS} : Run false (d + 1) 41 73 [some (.ref 0), some (.int a1)] [] σ =
    some (.inl (some (.int (FI σ 1 0)), σ)) := by
  rw [Run_go [68, 73, 81, 86, 94, 102, 110, 118, 126, 134, 141, 142, 150, 158, 166] 5]
  rfl
theorem s41_81 {d : Nat} {a1 : Int32} {σ : PS} : Run false (d + 1) 41 81 [some (.ref 0), some (.int a1)] [] σ =
    some (.inl (some (.int (FI σ 0 1)), σ)) := by
  rw [Run_go [68, 73, 81, 86, 94, 102, 110, 118, 126, 134, 141, 142, 150, 158, 166] 4]
  rfl
theorem s41_86 {d : Nat} {a1 : Int32} {σ : PS} : Run false (d + 1) 41 86 [some (.ref 0), some (.int a1)] [] σ =
    some (.inl (some (.int (FI σ 17 0)), σ)) := by
  rw [Run_go [68, 73, 81, 86, 94, 102, 110, 118, 126, 134, 141, 142, 150, 158, 166] 5]
  rfl
theorem s41_94 {d : Nat} {a1 : Int32} {σ : PS} : Run false (d + 1) 41 94 [some (.ref 0), some (.int a1)] [] σ =
    some (.inl (some (.int (FI σ 26 0)), σ)) := by
  rw [Run_go [68, 73, 81, 86, 94, 102, 110, 118, 126, 134, 141, 142, 150, 158, 166] 5]
  rfl
theorem s41_102 {d : Nat} {a1 : Int32} {σ : PS} : Run false (d + 1) 41 102 [some (.ref 0), some (.int a1)] [] σ =
    some (.inl (some (.int (FI σ 31 0)), σ)) := by
  rw [Run_go [68, 73, 81, 86, 94, 102, 110, 118, 126, 134, 141, 142, 150, 158, 166] 5]
  rfl
theorem s41_110 {d : Nat} {a1 : Int32} {σ : PS} : Run false (d + 1) 41 110 [some (.ref 0), some (.int a1)] [] σ =
    some (.inl (some (.int (FI σ 60 0)), σ)) := by
  rw [Run_go [68, 73, 81, 86, 94, 102, 110, 118, 126, 134, 141, 142, 150, 158, 166] 5]
  rfl
theorem s41_118 {d : Nat} {a1 : Int32} {σ : PS} : Run false (d + 1) 41 118 [some (.ref 0), some (.int a1)] [] σ =
    some (.inl (some (.int (FI σ 60 1)), σ)) := by
  rw [Run_go [68, 73, 81, 86, 94, 102, 110, 118, 126, 134, 141, 142, 150, 158, 166] 5]
  rfl
theorem s41_126 {d : Nat} {a1 : Int32} {σ : PS} : Run false (d + 1) 41 126 [some (.ref 0), some (.int a1)] [] σ =
    some (.inl (some (.int (FI σ 60 2)), σ)) := by
  rw [Run_go [68, 73, 81, 86, 94, 102, 110, 118, 126, 134, 141, 142, 150, 158, 166] 5]
  rfl
theorem s41_134 {d : Nat} {a1 : Int32} {σ : PS} : Run false (d + 1) 41 134 [some (.ref 0), some (.int a1)] [] σ =
    aft false (d + 1) 41 141 [some (.ref 0), some (.int a1)] [] (Run false d 115 0 [some (.ref 71), none, none] [] σ) := by
  rw [Run_go [68, 73, 81, 86, 94, 102, 110, 118, 126, 134, 141, 142, 150, 158, 166] 4]
  rfl
theorem s41_141 {d : Nat} {a1 : Int32} {r0 : Int32} {σ : PS} : Run false (d + 1) 41 141 [some (.ref 0), some (.int a1)] [.int r0] σ =
    some (.inl (some (.int r0), σ)) := by
  rw [Run_go [68, 73, 81, 86, 94, 102, 110, 118, 126, 134, 141, 142, 150, 158, 166] 2]
  rfl
theorem s41_142 {d : Nat} {a1 : Int32} {σ : PS} : Run false (d + 1) 41 142 [some (.ref 0), some (.int a1)] [] σ =
    some (.inl (some (.int (FI σ 78 0)), σ)) := by
  rw [Run_go [68, 73, 81, 86, 94, 102, 110, 118, 126, 134, 141, 142, 150, 158, 166] 5]
  rfl
theorem s41_150 {d : Nat} {a1 : Int32} {σ : PS} : Run false (d + 1) 41 150 [some (.ref 0), some (.int a1)] [] σ =
    some (.inl (some (.int (FI σ 12 0)), σ)) := by
  rw [Run_go [68, 73, 81, 86, 94, 102, 110, 118, 126, 134, 141, 142, 150, 158, 166] 5]
  rfl
theorem s41_158 {d : Nat} {a1 : Int32} {σ : PS} : Run false (d + 1) 41 158 [some (.ref 0), some (.int a1)] [] σ =
    some (.inl (some (.int (FI σ 31 1)), σ)) := by
  rw [Run_go [68, 73, 81, 86, 94, 102, 110, 118, 126, 134, 141, 142, 150, 158, 166] 5]
  rfl
theorem s41_166 {d : Nat} {a1 : Int32} {σ : PS} : Run false (d + 1) 41 166 [some (.ref 0), some (.int a1)] [] σ =
    some (.inl (some (.int (-1 : Int32)), σ)) := by
  rw [Run_go [68, 73, 81, 86, 94, 102, 110, 118, 126, 134, 141, 142, 150, 158, 166] 3]
  rfl
set_option maxRecDepth 100000 in
theorem s42_0 {d : Nat} {a0 : Int32} {a1 : Int32} {a2 : Int32} {σ : PS} : Run false (d + 1) 42 0 [some (.int a0), some (.int a1), some (.int a2)] [] σ =
    (bif obl (a0 < a1) then some (.inr (1, thF σ)) else (bif obl (a0 ≤ a2) then some (.inl (none, σ)) else some (.inr (1, thF σ)))) := by
  rw [Run_go [] 8]
  rfl
theorem s43_0 {d : Nat} {a0 : Int32} {σ : PS} : Run false (d + 1) 43 0 [some (.int a0)] [] σ =
    aft false (d + 1) 43 7 [some (.int a0)] [] (Run false d 42 0 [some (.int a0), some (.int (nI 0)), some (.int (nI 40))] [] σ) := by
  rw [Run_go [7] 5]
  rfl
theorem s43_7 {d : Nat} {a0 : Int32} {σ : PS} : Run false (d + 1) 43 7 [some (.int a0)] [] σ =
    some (.inl (none, σ)) := by
  rw [Run_go [7] 2]
  rfl
theorem s44_0 {d : Nat} {a0 : Int32} {σ : PS} : Run false (d + 1) 44 0 [some (.int a0)] [] σ =
    aft false (d + 1) 44 6 [some (.int a0)] [] (Run false d 42 0 [some (.int a0), some (.int (nI 0)), some (.int (nI 4))] [] σ) := by
  rw [Run_go [6] 5]
  rfl
theorem s44_6 {d : Nat} {a0 : Int32} {σ : PS} : Run false (d + 1) 44 6 [some (.int a0)] [] σ =
    some (.inl (none, σ)) := by
  rw [Run_go [6] 2]
  rfl
theorem s45_0 {d : Nat} {a0 : Int32} {σ : PS} : Run false (d + 1) 45 0 [some (.int a0)] [] σ =
    aft false (d + 1) 45 8 [some (.int a0)] [] (Run false d 42 0 [some (.int a0), some (.int (nI 0)), some (.int (nI 200))] [] σ) := by
  rw [Run_go [8] 5]
  rfl
theorem s45_8 {d : Nat} {a0 : Int32} {σ : PS} : Run false (d + 1) 45 8 [some (.int a0)] [] σ =
    some (.inl (none, σ)) := by
  rw [Run_go [8] 2]
  rfl
theorem s46_0 {d : Nat} {a0 : Int32} {a1 : Int32} {σ : PS} : Run false (d + 1) 46 0 [some (.int a0), some (.int a1)] [] σ =
    (bif obl (a0 < (nI 0)) then some (.inr (3, thF σ)) else (bif obl (a0 < a1) then some (.inl (none, σ)) else some (.inr (3, thF σ)))) := by
  rw [Run_go [] 7]
  rfl
theorem s47_0 {d : Nat} {a1 : Int32} {σ : PS} : Run false (d + 1) 47 0 [some (.ref 0), some (.int a1)] [] σ =
    aft false (d + 1) 47 12 [some (.ref 0), some (.int a1)] [] (Run false d 42 0 [some (.int a1), some (.int (nI 0)), some (.int (FI σ 12 0))] [] σ) := by
  rw [Run_go [12] 7]
  rfl
theorem s47_12 {d : Nat} {a1 : Int32} {σ : PS} : Run false (d + 1) 47 12 [some (.ref 0), some (.int a1)] [] σ =
    some (.inl (none, σ)) := by
  rw [Run_go [12] 2]
  rfl
set_option maxRecDepth 100000 in
theorem s48_0 {d : Nat} {a1 : Int32} {σ : PS} : Run false (d + 1) 48 0 [some (.ref 0), some (.int a1)] [] σ =
    (bif obl (a1 < (nI 0)) then some (.inr (4, thF σ)) else (bif obl (a1 < (FI σ 0 1)) then some (.inl (none, σ)) else some (.inr (4, thF σ)))) := by
  rw [Run_go [] 8]
  rfl
set_option maxRecDepth 100000 in
theorem s49_0 {d : Nat} {a1 : Int32} {σ : PS} : Run false (d + 1) 49 0 [some (.ref 0), some (.int a1)] [] σ =
    (bif obl (a1 < (nI 0)) then some (.inr (4, thF σ)) else (bif obl (a1 < (FI σ 17 0)) then some (.inl (none, σ)) else some (.inr (4, thF σ)))) := by
  rw [Run_go [] 9]
  rfl
set_option maxRecDepth 100000 in
theorem s50_0 {d : Nat} {a1 : Int32} {a2 : Int32} {σ : PS} : Run false (d + 1) 50 0 [some (.ref 0), some (.int a1), some (.int a2)] [] σ =
    (bif inb a1 20 then aft false (d + 1) 50 16 [some (.ref 0), some (.int a1), some (.int a2)] [] (Run false d 42 0 [some (.int a2), some (.int (nI 0)), some (.int ((AI σ 19 a1.toNatClampNeg) - (nI 1)))] [] σ) else none) := by
  rw [Run_go [16] 11]
  rfl
theorem s50_16 {d : Nat} {a1 : Int32} {a2 : Int32} {σ : PS} : Run false (d + 1) 50 16 [some (.ref 0), some (.int a1), some (.int a2)] [] σ =
    some (.inl (none, σ)) := by
  rw [Run_go [16] 2]
  rfl
theorem s51_0 {d : Nat} {a1 : Int32} {σ : PS} : Run false (d + 1) 51 0 [some (.ref 0), some (.int a1)] [] σ =
    aft false (d + 1) 51 11 [some (.ref 0), some (.int a1)] [] (Run false d 46 0 [some (.int a1), some (.int (FI σ 31 0))] [] σ) := by
  rw [Run_go [11] 6]
  rfl
theorem s51_11 {d : Nat} {a1 : Int32} {σ : PS} : Run false (d + 1) 51 11 [some (.ref 0), some (.int a1)] [] σ =
    some (.inl (none, σ)) := by
  rw [Run_go [11] 2]
  rfl
theorem s52_0 {d : Nat} {a1 : Int32} {σ : PS} : Run false (d + 1) 52 0 [some (.ref 0), some (.int a1)] [] σ =
    (bif obl (a1 = (-1 : Int32)) then Run false (d + 1) 52 10 [some (.ref 0), some (.int a1)] [] σ else aft false (d + 1) 52 10 [some (.ref 0), some (.int a1)] [] (Run false d 51 0 [some (.ref 0), some (.int a1)] [] σ)) := by
  rw [Run_go [10] 7]
  rfl
theorem s52_10 {d : Nat} {a1 : Int32} {σ : PS} : Run false (d + 1) 52 10 [some (.ref 0), some (.int a1)] [] σ =
    some (.inl (none, σ)) := by
  rw [Run_go [10] 2]
  rfl
theorem s53_0 {d : Nat} {a1 : Int32} {σ : PS} : Run false (d + 1) 53 0 [some (.ref 0), some (.int a1)] [] σ =
    aft false (d + 1) 53 11 [some (.ref 0), some (.int a1)] [] (Run false d 46 0 [some (.int a1), some (.int (FI σ 60 0))] [] σ) := by
  rw [Run_go [11] 6]
  rfl
theorem s53_11 {d : Nat} {a1 : Int32} {σ : PS} : Run false (d + 1) 53 11 [some (.ref 0), some (.int a1)] [] σ =
    some (.inl (none, σ)) := by
  rw [Run_go [11] 2]
  rfl
set_option maxRecDepth 100000 in
theorem s54_0 {d : Nat} {a1 : Int32} {a2 : Int32} {a3 : Int32} {σ : PS} : Run false (d + 1) 54 0 [some (.ref 0), some (.int a1), some (.int a2), some (.int a3), none, none] [] σ =
    (bif obl ((nI 0) ≤ a1) then aft false (d + 1) 54 20 [some (.ref 0), some (.int a1), some (.int a2), some (.int a3), none, none] [] (Run false d 100 0 [some (.ref 1), some (.int (nI 212)), some (.int a2), some (.int a3), some (.int (nI 100)), none] [] σ) else some (.inl (some (.int (nI 0)), σ))) := by
  rw [Run_go [20, 35, 51] 10]
  rfl
set_option maxRecDepth 100000 in
theorem s54_20 {d : Nat} {a1 : Int32} {a2 : Int32} {a3 : Int32} {z4 : Option Value} {z5 : Option Value} {r0 : Int32} {σ : PS} : Run false (d + 1) 54 20 [some (.ref 0), some (.int a1), some (.int a2), some (.int a3), z4, z5] [.int r0] σ =
    aft false (d + 1) 54 35 [some (.ref 0), some (.int a1), some (.int a2), some (.int a3), some (.int r0), z5] [] (Run false d 100 0 [some (.ref 1), some (.int (nI 216)), some (.int (-1 : Int32)), some (.int a3), some (.int (nI 1)), none] [] σ) := by
  rw [Run_go [20, 35, 51] 9]
  rfl
set_option maxRecDepth 100000 in
theorem s54_35 {d : Nat} {a1 : Int32} {a2 : Int32} {a3 : Int32} {a4 : Int32} {z5 : Option Value} {r0 : Int32} {σ : PS} : Run false (d + 1) 54 35 [some (.ref 0), some (.int a1), some (.int a2), some (.int a3), some (.int a4), z5] [.int r0] σ =
    aft false (d + 1) 54 51 [some (.ref 0), some (.int a1), some (.int a2), some (.int a3), some (.int a4), some (.int r0)] [] (Run false d 128 0 [some (.ref 17), some (.int a1), some (.int a2), some (.int a3), some (.int a4), some (.int r0), none, none, none] [] σ) := by
  rw [Run_go [20, 35, 51] 10]
  rfl
theorem s54_51 {d : Nat} {a1 : Int32} {a2 : Int32} {a3 : Int32} {a4 : Int32} {a5 : Int32} {r0 : Int32} {σ : PS} : Run false (d + 1) 54 51 [some (.ref 0), some (.int a1), some (.int a2), some (.int a3), some (.int a4), some (.int a5)] [.int r0] σ =
    some (.inl (some (.int r0), σ)) := by
  rw [Run_go [20, 35, 51] 2]
  rfl
set_option maxRecDepth 100000 in
theorem s55_0 {d : Nat} {a1 : Int32} {a2 : Int32} {σ : PS} : Run false (d + 1) 55 0 [some (.ref 0), some (.int a1), some (.int a2), none, none] [] σ =
    aft false (d + 1) 55 13 [some (.ref 0), some (.int a1), some (.int a2), none, none] [] (Run false d 100 0 [some (.ref 1), some (.int (nI 215)), some (.int (-1 : Int32)), some (.int a1), some (.int (nI 0)), none] [] σ) := by
  rw [Run_go [13, 25, 28, 105, 132, 161] 8]
  rfl
theorem s55_13 {d : Nat} {a1 : Int32} {a2 : Int32} {z3 : Option Value} {z4 : Option Value} {r0 : Int32} {σ : PS} : Run false (d + 1) 55 13 [some (.ref 0), some (.int a1), some (.int a2), z3, z4] [.int r0] σ =
    aft false (d + 1) 55 25 [some (.ref 0), some (.int a1), some (.int a2), some (.int r0), z4] [] (Run false d 82 0 [some (.ref 36), some (.int (FI σ 0 1)), none] [] σ) := by
  rw [Run_go [13, 25, 28, 105, 132, 161] 7]
  rfl
theorem s55_25 {d : Nat} {a1 : Int32} {a2 : Int32} {a3 : Int32} {z4 : Option Value} {σ : PS} : Run false (d + 1) 55 25 [some (.ref 0), some (.int a1), some (.int a2), some (.int a3), z4] [] σ =
    Run false (d + 1) 55 28 [some (.ref 0), some (.int a1), some (.int a2), some (.int a3), some (.int (nI 0))] [] σ := by
  rw [Run_go [13, 25, 28, 105, 132, 161] 3]
  rfl
set_option maxRecDepth 100000 in
theorem s55_28 {d : Nat} {a1 : Int32} {a2 : Int32} {a3 : Int32} {a4 : Int32} {σ : PS} : Run false (d + 1) 55 28 [some (.ref 0), some (.int a1), some (.int a2), some (.int a3), some (.int a4)] [] σ =
    (bif obl ((FI σ 26 0) ≤ a4) then Run false (d + 1) 55 105 [some (.ref 0), some (.int a1), some (.int a2), some (.int a3), some (.int (nI 0))] [] σ else (bif inb a4 200 then (bif obl ((AI σ 28 a4.toNatClampNeg) = a1) then (bif inb a4 200 then (bif obl (a2 < (AI σ 30 a4.toNatClampNeg)) then Run false (d + 1) 55 28 [some (.ref 0), some (.int a1), some (.int a2), some (.int a3), some (.int (a4 + (nI 1)))] [] σ else (bif inb a4 200 then (bif inb a4 200 then (bif inb (AI σ 27 a4.toNatClampNeg) 50 then Run false (d + 1) 55 28 [some (.ref 0), some (.int a1), some (.int a2), some (.int a3), some (.int (a4 + (nI 1)))] [] (wAI σ 37 (AI σ 27 a4.toNatClampNeg).toNatClampNeg (AI σ 29 a4.toNatClampNeg)) else none) else none) else none)) else none) else Run false (d + 1) 55 28 [some (.ref 0), some (.int a1), some (.int a2), some (.int a3), some (.int (a4 + (nI 1)))] [] σ) else none)) := by
  rw [Run_go [13, 25, 28, 105, 132, 161] 36]
  rfl
set_option maxRecDepth 100000 in
theorem s55_105 {d : Nat} {a1 : Int32} {a2 : Int32} {a3 : Int32} {a4 : Int32} {σ : PS} : Run false (d + 1) 55 105 [some (.ref 0), some (.int a1), some (.int a2), some (.int a3), some (.int a4)] [] σ =
    (bif obl ((FI σ 0 1) ≤ a4) then some (.inl (none, σ)) else aft false (d + 1) 55 132 [some (.ref 0), some (.int a1), some (.int a2), some (.int a3), some (.int a4)] [.int a4, .ref 38] (Run false d 84 0 [some (.ref 36), some (.int a4), none, none] [] σ)) := by
  rw [Run_go [13, 25, 28, 105, 132, 161] 13]
  rfl
set_option maxRecDepth 100000 in
theorem s55_132 {d : Nat} {a1 : Int32} {a2 : Int32} {a3 : Int32} {a4 : Int32} {r1 : Int32} {r2 : Int32} {σ : PS} : Run false (d + 1) 55 132 [some (.ref 0), some (.int a1), some (.int a2), some (.int a3), some (.int a4)] [.int r2, .int r1, .ref 38] σ =
    (bif obl (a3 ≤ r2) then (bif inb r1 10 then (bif is01 (nI 0) then aft false (d + 1) 55 161 [some (.ref 0), some (.int a1), some (.int a2), some (.int a3), some (.int a4)] [.int a4, .ref 39] (Run false d 163 0 [some (.ref 31), some (.int a4), some (.int a1), none, none, none] [] (wAI σ 38 r1.toNatClampNeg (nI 0))) else none) else none) else (bif inb r1 10 then (bif is01 (nI 1) then aft false (d + 1) 55 161 [some (.ref 0), some (.int a1), some (.int a2), some (.int a3), some (.int a4)] [.int a4, .ref 39] (Run false d 163 0 [some (.ref 31), some (.int a4), some (.int a1), none, none, none] [] (wAI σ 38 r1.toNatClampNeg (nI 1))) else none) else none)) := by
  rw [Run_go [13, 25, 28, 105, 132, 161] 15]
  rfl
theorem s55_161 {d : Nat} {a1 : Int32} {a2 : Int32} {a3 : Int32} {a4 : Int32} {r1 : Int32} {r2 : Int32} {σ : PS} : Run false (d + 1) 55 161 [some (.ref 0), some (.int a1), some (.int a2), some (.int a3), some (.int a4)] [.int r2, .int r1, .ref 39] σ =
    (bif inb r1 10 then Run false (d + 1) 55 105 [some (.ref 0), some (.int a1), some (.int a2), some (.int a3), some (.int (a4 + (nI 1)))] [] (wAI σ 39 r1.toNatClampNeg r2) else none) := by
  rw [Run_go [13, 25, 28, 105, 132, 161] 4]
  rfl
theorem s56_0 {d : Nat} {a1 : Int32} {a2 : Int32} {a3 : Int32} {σ : PS} : Run false (d + 1) 56 0 [some (.ref 0), some (.int a1), some (.int a2), some (.int a3), none] [] σ =
    aft false (d + 1) 56 6 [some (.ref 0), some (.int a1), some (.int a2), some (.int a3), none] [] (Run false d 55 0 [some (.ref 0), some (.int a2), some (.int a3), none, none] [] σ) := by
  rw [Run_go [6, 12, 23, 48, 69, 101, 118] 5]
  rfl
theorem s56_6 {d : Nat} {a1 : Int32} {a2 : Int32} {a3 : Int32} {z4 : Option Value} {σ : PS} : Run false (d + 1) 56 6 [some (.ref 0), some (.int a1), some (.int a2), some (.int a3), z4] [] σ =
    aft false (d + 1) 56 12 [some (.ref 0), some (.int a1), some (.int a2), some (.int a3), z4] [] (Run false d 57 0 [some (.ref 0), some (.int a1), some (.int a2), none] [] σ) := by
  rw [Run_go [6, 12, 23, 48, 69, 101, 118] 5]
  rfl
theorem s56_12 {d : Nat} {a1 : Int32} {a2 : Int32} {a3 : Int32} {z4 : Option Value} {σ : PS} : Run false (d + 1) 56 12 [some (.ref 0), some (.int a1), some (.int a2), some (.int a3), z4] [] σ =
    Run false (d + 1) 56 23 [some (.ref 0), some (.int a1), some (.int a2), some (.int a3), some (.int (nI 0))] [] (wFI σ 43 2 (nI 0)) := by
  rw [Run_go [6, 12, 23, 48, 69, 101, 118] 7]
  rfl
set_option maxRecDepth 100000 in
theorem s56_23 {d : Nat} {a1 : Int32} {a2 : Int32} {a3 : Int32} {a4 : Int32} {σ : PS} : Run false (d + 1) 56 23 [some (.ref 0), some (.int a1), some (.int a2), some (.int a3), some (.int a4)] [] σ =
    (bif obl ((nI 5) ≤ a4) then Run false (d + 1) 56 69 [some (.ref 0), some (.int a1), some (.int a2), some (.int a3), some (.int (nI 0))] [] σ else aft false (d + 1) 56 48 [some (.ref 0), some (.int a1), some (.int a2), some (.int a3), some (.int a4)] [.int a4, .ref 45] (Run false d 83 0 [some (.ref 36), some (.int a1), some (.int a4)] [] σ)) := by
  rw [Run_go [6, 12, 23, 48, 69, 101, 118] 13]
  rfl
set_option maxRecDepth 100000 in
theorem s56_48 {d : Nat} {a1 : Int32} {a2 : Int32} {a3 : Int32} {a4 : Int32} {r1 : Int32} {r2 : Int32} {σ : PS} : Run false (d + 1) 56 48 [some (.ref 0), some (.int a1), some (.int a2), some (.int a3), some (.int a4)] [.int r2, .int r1, .ref 45] σ =
    (bif inb r1 5 then (bif inb a4 5 then Run false (d + 1) 56 23 [some (.ref 0), some (.int a1), some (.int a2), some (.int a3), some (.int (a4 + (nI 1)))] [] (wAI (wAI σ 45 r1.toNatClampNeg r2) 47 a4.toNatClampNeg (nI 0)) else none) else none) := by
  rw [Run_go [6, 12, 23, 48, 69, 101, 118] 10]
  rfl
set_option maxRecDepth 100000 in
theorem s56_69 {d : Nat} {a1 : Int32} {a2 : Int32} {a3 : Int32} {a4 : Int32} {σ : PS} : Run false (d + 1) 56 69 [some (.ref 0), some (.int a1), some (.int a2), some (.int a3), some (.int a4)] [] σ =
    (bif obl ((FI σ 17 0) ≤ a4) then aft false (d + 1) 56 118 [some (.ref 0), some (.int a1), some (.int a2), some (.int a3), some (.int a4)] [] (Run false d 79 0 [some (.ref 43), some (.ref 1), none, none, none, none, none] [] σ) else (bif inb a4 20 then (bif obl ((AI σ 18 a4.toNatClampNeg) = a1) then aft false (d + 1) 56 101 [some (.ref 0), some (.int a1), some (.int a2), some (.int a3), some (.int a4)] [] (Run false d 58 0 [some (.ref 0), some (.int a4), none, none] [] σ) else Run false (d + 1) 56 101 [some (.ref 0), some (.int a1), some (.int a2), some (.int a3), some (.int a4)] [] σ) else none)) := by
  rw [Run_go [6, 12, 23, 48, 69, 101, 118] 16]
  rfl
theorem s56_101 {d : Nat} {a1 : Int32} {a2 : Int32} {a3 : Int32} {a4 : Int32} {σ : PS} : Run false (d + 1) 56 101 [some (.ref 0), some (.int a1), some (.int a2), some (.int a3), some (.int a4)] [] σ =
    Run false (d + 1) 56 69 [some (.ref 0), some (.int a1), some (.int a2), some (.int a3), some (.int (a4 + (nI 1)))] [] σ := by
  rw [Run_go [6, 12, 23, 48, 69, 101, 118] 3]
  rfl
theorem s56_118 {d : Nat} {a1 : Int32} {a2 : Int32} {a3 : Int32} {a4 : Int32} {q0 : Int64} {σ : PS} : Run false (d + 1) 56 118 [some (.ref 0), some (.int a1), some (.int a2), some (.int a3), some (.int a4)] [.long q0] σ =
    some (.inl (some (.long q0), σ)) := by
  rw [Run_go [6, 12, 23, 48, 69, 101, 118] 2]
  rfl
set_option maxRecDepth 100000 in
theorem s57_0 {d : Nat} {a1 : Int32} {a2 : Int32} {σ : PS} : Run false (d + 1) 57 0 [some (.ref 0), some (.int a1), some (.int a2), none] [] σ =
    aft false (d + 1) 57 25 [some (.ref 0), some (.int a1), some (.int a2), none] [.ref 43] (Run false d 100 0 [some (.ref 1), some (.int (nI 215)), some (.int (-1 : Int32)), some (.int a2), some (.int (nI 0)), none] [] (wFI σ 43 0 a2)) := by
  rw [Run_go [25, 30, 55, 72, 81] 14]
  rfl
theorem s57_25 {d : Nat} {a1 : Int32} {a2 : Int32} {z3 : Option Value} {r1 : Int32} {σ : PS} : Run false (d + 1) 57 25 [some (.ref 0), some (.int a1), some (.int a2), z3] [.int r1, .ref 43] σ =
    Run false (d + 1) 57 30 [some (.ref 0), some (.int a1), some (.int a2), some (.int (nI 0))] [] (wFI σ 43 1 r1) := by
  rw [Run_go [25, 30, 55, 72, 81] 4]
  rfl
set_option maxRecDepth 100000 in
theorem s57_30 {d : Nat} {a1 : Int32} {a2 : Int32} {a3 : Int32} {σ : PS} : Run false (d + 1) 57 30 [some (.ref 0), some (.int a1), some (.int a2), some (.int a3)] [] σ =
    (bif obl ((nI 5) ≤ a3) then some (.inl (none, σ)) else aft false (d + 1) 57 55 [some (.ref 0), some (.int a1), some (.int a2), some (.int a3)] [.int a3, .ref 44] (Run false d 99 0 [some (.ref 1), some (.int (nI 210)), some (.int a3), some (.int a2), none, none, none] [] σ)) := by
  rw [Run_go [25, 30, 55, 72, 81] 14]
  rfl
set_option maxRecDepth 100000 in
theorem s57_55 {d : Nat} {a1 : Int32} {a2 : Int32} {a3 : Int32} {r1 : Int32} {r2 : Int32} {σ : PS} : Run false (d + 1) 57 55 [some (.ref 0), some (.int a1), some (.int a2), some (.int a3)] [.int r2, .int r1, .ref 44] σ =
    (bif inb r1 5 then aft false (d + 1) 57 72 [some (.ref 0), some (.int a1), some (.int a2), some (.int a3)] [.int a3, .ref 46] (Run false d 85 0 [some (.ref 36), some (.int a3), none, none] [] (wAI σ 44 r1.toNatClampNeg r2)) else none) := by
  rw [Run_go [25, 30, 55, 72, 81] 10]
  rfl
theorem s57_72 {d : Nat} {a1 : Int32} {a2 : Int32} {a3 : Int32} {r1 : Int32} {r2 : Int32} {σ : PS} : Run false (d + 1) 57 72 [some (.ref 0), some (.int a1), some (.int a2), some (.int a3)] [.int r2, .int r1, .ref 46] σ =
    aft false (d + 1) 57 81 [some (.ref 0), some (.int a1), some (.int a2), some (.int a3)] [.int r2, .int r1, .ref 46] (Run false d 83 0 [some (.ref 36), some (.int a1), some (.int a3)] [] σ) := by
  rw [Run_go [25, 30, 55, 72, 81] 6]
  rfl
theorem s57_81 {d : Nat} {a1 : Int32} {a2 : Int32} {a3 : Int32} {r1 : Int32} {r2 : Int32} {r3 : Int32} {σ : PS} : Run false (d + 1) 57 81 [some (.ref 0), some (.int a1), some (.int a2), some (.int a3)] [.int r3, .int r2, .int r1, .ref 46] σ =
    (bif inb r1 5 then Run false (d + 1) 57 30 [some (.ref 0), some (.int a1), some (.int a2), some (.int (a3 + (nI 1)))] [] (wAI σ 46 r1.toNatClampNeg (r2 - r3)) else none) := by
  rw [Run_go [25, 30, 55, 72, 81] 5]
  rfl
theorem s58_0 {d : Nat} {a1 : Int32} {σ : PS} : Run false (d + 1) 58 0 [some (.ref 0), some (.int a1), none, none] [] σ =
    aft false (d + 1) 58 8 [some (.ref 0), some (.int a1), none, none] [] (Run false d 127 0 [some (.ref 17), some (.int a1)] [] σ) := by
  rw [Run_go [8, 16, 40, 67] 5]
  rfl
theorem s58_8 {d : Nat} {a1 : Int32} {z2 : Option Value} {z3 : Option Value} {r0 : Int32} {σ : PS} : Run false (d + 1) 58 8 [some (.ref 0), some (.int a1), z2, z3] [.int r0] σ =
    (bif obl ((nI 0) ≤ r0) then Run false (d + 1) 58 16 [some (.ref 0), some (.int a1), some (.int r0), some (.int (nI 0))] [] σ else some (.inl (none, σ))) := by
  rw [Run_go [8, 16, 40, 67] 6]
  rfl
set_option maxRecDepth 100000 in
theorem s58_16 {d : Nat} {a1 : Int32} {a2 : Int32} {a3 : Int32} {σ : PS} : Run false (d + 1) 58 16 [some (.ref 0), some (.int a1), some (.int a2), some (.int a3)] [] σ =
    (bif obl ((nI 5) ≤ a3) then aft false (d + 1) 58 67 [some (.ref 0), some (.int a1), some (.int a2), some (.int a3)] [.int (FI σ 43 2), .ref 43] (Run false d 126 0 [some (.ref 17), some (.int a2), none, none] [] σ) else (bif inb a3 5 then aft false (d + 1) 58 40 [some (.ref 0), some (.int a1), some (.int a2), some (.int a3)] [.int (AI σ 47 a3.toNatClampNeg), .int a3, .ref 47] (Run false d 125 0 [some (.ref 17), some (.int a2), some (.int a3)] [] σ) else none)) := by
  rw [Run_go [8, 16, 40, 67] 15]
  rfl
theorem s58_40 {d : Nat} {a1 : Int32} {a2 : Int32} {a3 : Int32} {r1 : Int32} {r2 : Int32} {r3 : Int32} {σ : PS} : Run false (d + 1) 58 40 [some (.ref 0), some (.int a1), some (.int a2), some (.int a3)] [.int r3, .int r2, .int r1, .ref 47] σ =
    (bif inb r1 5 then Run false (d + 1) 58 16 [some (.ref 0), some (.int a1), some (.int a2), some (.int (a3 + (nI 1)))] [] (wAI σ 47 r1.toNatClampNeg (r2 + r3)) else none) := by
  rw [Run_go [8, 16, 40, 67] 5]
  rfl
theorem s58_67 {d : Nat} {a1 : Int32} {a2 : Int32} {a3 : Int32} {r1 : Int32} {r2 : Int32} {σ : PS} : Run false (d + 1) 58 67 [some (.ref 0), some (.int a1), some (.int a2), some (.int a3)] [.int r2, .int r1, .ref 43] σ =
    some (.inl (none, (wFI σ 43 2 (if r1 < r2 then r2 else r1)))) := by
  rw [Run_go [8, 16, 40, 67] 4]
  rfl
theorem s59_0 {d : Nat} {a1 : Int32} {a2 : Int32} {σ : PS} : Run false (d + 1) 59 0 [some (.ref 0), some (.int a1), some (.int a2), none, none, none] [] σ =
    aft false (d + 1) 59 8 [some (.ref 0), some (.int a1), some (.int a2), none, none, none] [] (Run false d 126 0 [some (.ref 17), some (.int a1), none, none] [] σ) := by
  rw [Run_go [8, 12, 28, 48] 5]
  rfl
theorem s59_8 {d : Nat} {a1 : Int32} {a2 : Int32} {z3 : Option Value} {z4 : Option Value} {z5 : Option Value} {r0 : Int32} {σ : PS} : Run false (d + 1) 59 8 [some (.ref 0), some (.int a1), some (.int a2), z3, z4, z5] [.int r0] σ =
    Run false (d + 1) 59 12 [some (.ref 0), some (.int a1), some (.int a2), some (.int r0), some (.int (nI 0)), z5] [] σ := by
  rw [Run_go [8, 12, 28, 48] 4]
  rfl
set_option maxRecDepth 100000 in
theorem s59_12 {d : Nat} {a1 : Int32} {a2 : Int32} {a3 : Int32} {a4 : Int32} {z5 : Option Value} {σ : PS} : Run false (d + 1) 59 12 [some (.ref 0), some (.int a1), some (.int a2), some (.int a3), some (.int a4), z5] [] σ =
    (bif obl ((nI 5) ≤ a4) then (bif is01 (nI 0) then some (.inl (some (.int (nI 0)), σ)) else none) else aft false (d + 1) 59 28 [some (.ref 0), some (.int a1), some (.int a2), some (.int a3), some (.int a4), z5] [] (Run false d 125 0 [some (.ref 17), some (.int a1), some (.int a4)] [] σ)) := by
  rw [Run_go [8, 12, 28, 48] 9]
  rfl
set_option maxRecDepth 100000 in
theorem s59_28 {d : Nat} {a1 : Int32} {a2 : Int32} {a3 : Int32} {a4 : Int32} {z5 : Option Value} {r0 : Int32} {σ : PS} : Run false (d + 1) 59 28 [some (.ref 0), some (.int a1), some (.int a2), some (.int a3), some (.int a4), z5] [.int r0] σ =
    (bif obl (r0 ≤ (nI 0)) then Run false (d + 1) 59 12 [some (.ref 0), some (.int a1), some (.int a2), some (.int a3), some (.int (a4 + (nI 1))), some (.int r0)] [] σ else aft false (d + 1) 59 48 [some (.ref 0), some (.int a1), some (.int a2), some (.int a3), some (.int a4), some (.int r0)] [] (Run false d 101 0 [some (.ref 1), some (.int a4), some (.int a2), some (.int r0), some (.int a3), none, none, none] [] σ)) := by
  rw [Run_go [8, 12, 28, 48] 11]
  rfl
theorem s59_48 {d : Nat} {a1 : Int32} {a2 : Int32} {a3 : Int32} {a4 : Int32} {a5 : Int32} {r0 : Int32} {σ : PS} : Run false (d + 1) 59 48 [some (.ref 0), some (.int a1), some (.int a2), some (.int a3), some (.int a4), some (.int a5)] [.int r0] σ =
    (bif obl (r0 = (nI 0)) then Run false (d + 1) 59 12 [some (.ref 0), some (.int a1), some (.int a2), some (.int a3), some (.int (a4 + (nI 1))), some (.int a5)] [] σ else (bif is01 (nI 1) then some (.inl (some (.int (nI 1)), σ)) else none)) := by
  rw [Run_go [8, 12, 28, 48] 4]
  rfl
theorem s60_0 {d : Nat} {a1 : Int32} {a2 : Int32} {σ : PS} : Run false (d + 1) 60 0 [some (.ref 0), some (.int a1), some (.int a2), none] [] σ =
    aft false (d + 1) 60 9 [some (.ref 0), some (.int a1), some (.int a2), none] [] (Run false d 55 0 [some (.ref 0), some (.int a2), some (.int (FI σ 0 0)), none, none] [] σ) := by
  rw [Run_go [9, 15, 22, 24, 65, 89, 101, 105, 117] 6]
  rfl
theorem s60_9 {d : Nat} {a1 : Int32} {a2 : Int32} {z3 : Option Value} {σ : PS} : Run false (d + 1) 60 9 [some (.ref 0), some (.int a1), some (.int a2), z3] [] σ =
    aft false (d + 1) 60 15 [some (.ref 0), some (.int a1), some (.int a2), z3] [] (Run false d 57 0 [some (.ref 0), some (.int a1), some (.int a2), none] [] σ) := by
  rw [Run_go [9, 15, 22, 24, 65, 89, 101, 105, 117] 5]
  rfl
theorem s60_15 {d : Nat} {a1 : Int32} {a2 : Int32} {z3 : Option Value} {σ : PS} : Run false (d + 1) 60 15 [some (.ref 0), some (.int a1), some (.int a2), z3] [] σ =
    aft false (d + 1) 60 22 [some (.ref 0), some (.int a1), some (.int a2), z3] [] (Run false d 71 0 [some (.ref 48), none] [] σ) := by
  rw [Run_go [9, 15, 22, 24, 65, 89, 101, 105, 117] 4]
  rfl
theorem s60_22 {d : Nat} {a1 : Int32} {a2 : Int32} {z3 : Option Value} {σ : PS} : Run false (d + 1) 60 22 [some (.ref 0), some (.int a1), some (.int a2), z3] [] σ =
    Run false (d + 1) 60 24 [some (.ref 0), some (.int a1), some (.int a2), some (.int (nI 0))] [] σ := by
  rw [Run_go [9, 15, 22, 24, 65, 89, 101, 105, 117] 3]
  rfl
set_option maxRecDepth 100000 in
theorem s60_24 {d : Nat} {a1 : Int32} {a2 : Int32} {a3 : Int32} {σ : PS} : Run false (d + 1) 60 24 [some (.ref 0), some (.int a1), some (.int a2), some (.int a3)] [] σ =
    (bif obl ((FI σ 17 0) ≤ a3) then aft false (d + 1) 60 117 [some (.ref 0), some (.int a1), some (.int a2), some (.int a3)] [] (Run false d 63 0 [some (.ref 0), some (.int (nI 0)), some (.long (lN 0)), none, none, none] [] σ) else (bif inb a3 20 then (bif obl ((AI σ 18 a3.toNatClampNeg) = a1) then (bif obl ((nI 5) ≤ (FI σ 48 0)) then (bif inb a3 20 then (bif obl ((AI σ 18 a3.toNatClampNeg) = a1) then aft false (d + 1) 60 89 [some (.ref 0), some (.int a1), some (.int a2), some (.int a3)] [] (Run false d 127 0 [some (.ref 17), some (.int a3)] [] σ) else Run false (d + 1) 60 105 [some (.ref 0), some (.int a1), some (.int a2), some (.int a3)] [] σ) else none) else aft false (d + 1) 60 65 [some (.ref 0), some (.int a1), some (.int a2), some (.int a3)] [] (Run false d 61 0 [some (.ref 0), some (.int a3), some (.int a2), none, none, none, none] [] σ)) else (bif inb a3 20 then (bif obl ((AI σ 18 a3.toNatClampNeg) = a1) then aft false (d + 1) 60 89 [some (.ref 0), some (.int a1), some (.int a2), some (.int a3)] [] (Run false d 127 0 [some (.ref 17), some (.int a3)] [] σ) else Run false (d + 1) 60 105 [some (.ref 0), some (.int a1), some (.int a2), some (.int a3)] [] σ) else none)) else none)) := by
  rw [Run_go [9, 15, 22, 24, 65, 89, 101, 105, 117] 29]
  rfl
theorem s60_65 {d : Nat} {a1 : Int32} {a2 : Int32} {a3 : Int32} {σ : PS} : Run false (d + 1) 60 65 [some (.ref 0), some (.int a1), some (.int a2), some (.int a3)] [] σ =
    Run false (d + 1) 60 105 [some (.ref 0), some (.int a1), some (.int a2), some (.int a3)] [] σ := by
  rw [Run_go [9, 15, 22, 24, 65, 89, 101, 105, 117] 2]
  rfl
theorem s60_89 {d : Nat} {a1 : Int32} {a2 : Int32} {a3 : Int32} {r0 : Int32} {σ : PS} : Run false (d + 1) 60 89 [some (.ref 0), some (.int a1), some (.int a2), some (.int a3)] [.int r0] σ =
    (bif obl (r0 < (nI 0)) then Run false (d + 1) 60 105 [some (.ref 0), some (.int a1), some (.int a2), some (.int a3)] [] σ else aft false (d + 1) 60 101 [some (.ref 0), some (.int a1), some (.int a2), some (.int a3)] [.ref 0] (Run false d 127 0 [some (.ref 17), some (.int a3)] [] σ)) := by
  rw [Run_go [9, 15, 22, 24, 65, 89, 101, 105, 117] 7]
  rfl
theorem s60_101 {d : Nat} {a1 : Int32} {a2 : Int32} {a3 : Int32} {r1 : Int32} {σ : PS} : Run false (d + 1) 60 101 [some (.ref 0), some (.int a1), some (.int a2), some (.int a3)] [.int r1, .ref 0] σ =
    aft false (d + 1) 60 105 [some (.ref 0), some (.int a1), some (.int a2), some (.int a3)] [] (Run false d 62 0 [some (.ref 0), some (.int r1), some (.int a2), none] [] σ) := by
  rw [Run_go [9, 15, 22, 24, 65, 89, 101, 105, 117] 3]
  rfl
theorem s60_105 {d : Nat} {a1 : Int32} {a2 : Int32} {a3 : Int32} {σ : PS} : Run false (d + 1) 60 105 [some (.ref 0), some (.int a1), some (.int a2), some (.int a3)] [] σ =
    Run false (d + 1) 60 24 [some (.ref 0), some (.int a1), some (.int a2), some (.int (a3 + (nI 1)))] [] σ := by
  rw [Run_go [9, 15, 22, 24, 65, 89, 101, 105, 117] 3]
  rfl
theorem s60_117 {d : Nat} {a1 : Int32} {a2 : Int32} {a3 : Int32} {σ : PS} : Run false (d + 1) 60 117 [some (.ref 0), some (.int a1), some (.int a2), some (.int a3)] [] σ =
    some (.inl (none, σ)) := by
  rw [Run_go [9, 15, 22, 24, 65, 89, 101, 105, 117] 2]
  rfl
set_option maxRecDepth 100000 in
theorem s61_0 {d : Nat} {a1 : Int32} {a2 : Int32} {σ : PS} : Run false (d + 1) 61 0 [some (.ref 0), some (.int a1), some (.int a2), none, none, none, none] [] σ =
    (bif inb a1 20 then aft false (d + 1) 61 16 [some (.ref 0), some (.int a1), some (.int a2), none, none, none, none] [] (Run false d 72 0 [some (.ref 48), some (.int (AI σ 19 a1.toNatClampNeg))] [] σ) else none) := by
  rw [Run_go [16, 20, 60, 82, 103, 107, 138, 166] 9]
  rfl
theorem s61_16 {d : Nat} {a1 : Int32} {a2 : Int32} {z3 : Option Value} {z4 : Option Value} {z5 : Option Value} {z6 : Option Value} {r0 : Int32} {σ : PS} : Run false (d + 1) 61 16 [some (.ref 0), some (.int a1), some (.int a2), z3, z4, z5, z6] [.int r0] σ =
    Run false (d + 1) 61 20 [some (.ref 0), some (.int a1), some (.int a2), some (.int r0), some (.int (nI 0)), z5, z6] [] σ := by
  rw [Run_go [16, 20, 60, 82, 103, 107, 138, 166] 4]
  rfl
set_option maxRecDepth 100000 in
theorem s61_20 {d : Nat} {a1 : Int32} {a2 : Int32} {a3 : Int32} {a4 : Int32} {z5 : Option Value} {z6 : Option Value} {σ : PS} : Run false (d + 1) 61 20 [some (.ref 0), some (.int a1), some (.int a2), some (.int a3), some (.int a4), z5, z6] [] σ =
    (bif inb a1 20 then (bif obl ((AI σ 19 a1.toNatClampNeg) ≤ a4) then some (.inl (none, σ)) else aft false (d + 1) 61 60 [some (.ref 0), some (.int a1), some (.int a2), some (.int a3), some (.int a4), some (.int ((a1 * (nI 5)) + a4)), z6] [.int (a3 + a4), .ref 52] (Run false d 59 0 [some (.ref 0), some (.int ((a1 * (nI 5)) + a4)), some (.int a2), none, none, none] [] σ)) else none) := by
  rw [Run_go [16, 20, 60, 82, 103, 107, 138, 166] 24]
  rfl
set_option maxRecDepth 100000 in
theorem s61_60 {d : Nat} {a1 : Int32} {a2 : Int32} {a3 : Int32} {a4 : Int32} {a5 : Int32} {z6 : Option Value} {r1 : Int32} {r2 : Int32} {σ : PS} : Run false (d + 1) 61 60 [some (.ref 0), some (.int a1), some (.int a2), some (.int a3), some (.int a4), some (.int a5), z6] [.int r2, .int r1, .ref 52] σ =
    (bif inb r1 25 then (bif is01 r2 then aft false (d + 1) 61 82 [some (.ref 0), some (.int a1), some (.int a2), some (.int a3), some (.int a4), some (.int a5), z6] [.int (a3 + a4), .ref 53] (Run false d 129 0 [some (.ref 17), some (.int a5), some (.int a2)] [] (wAI σ 52 r1.toNatClampNeg r2)) else none) else none) := by
  rw [Run_go [16, 20, 60, 82, 103, 107, 138, 166] 13]
  rfl
set_option maxRecDepth 100000 in
theorem s61_82 {d : Nat} {a1 : Int32} {a2 : Int32} {a3 : Int32} {a4 : Int32} {a5 : Int32} {z6 : Option Value} {r1 : Int32} {r2 : Int32} {σ : PS} : Run false (d + 1) 61 82 [some (.ref 0), some (.int a1), some (.int a2), some (.int a3), some (.int a4), some (.int a5), z6] [.int r2, .int r1, .ref 53] σ =
    (bif inb r1 25 then aft false (d + 1) 61 103 [some (.ref 0), some (.int a1), some (.int a2), some (.int a3), some (.int a4), some (.int a5), z6] [.int (a3 + a4), .ref 54] (Run false d 126 0 [some (.ref 17), some (.int a5), none, none] [] (wAI σ 53 r1.toNatClampNeg r2)) else none) := by
  rw [Run_go [16, 20, 60, 82, 103, 107, 138, 166] 12]
  rfl
theorem s61_103 {d : Nat} {a1 : Int32} {a2 : Int32} {a3 : Int32} {a4 : Int32} {a5 : Int32} {z6 : Option Value} {r1 : Int32} {r2 : Int32} {σ : PS} : Run false (d + 1) 61 103 [some (.ref 0), some (.int a1), some (.int a2), some (.int a3), some (.int a4), some (.int a5), z6] [.int r2, .int r1, .ref 54] σ =
    (bif inb r1 25 then Run false (d + 1) 61 107 [some (.ref 0), some (.int a1), some (.int a2), some (.int a3), some (.int a4), some (.int a5), some (.int (nI 0))] [] (wAI σ 54 r1.toNatClampNeg r2) else none) := by
  rw [Run_go [16, 20, 60, 82, 103, 107, 138, 166] 4]
  rfl
set_option maxRecDepth 100000 in
theorem s61_107 {d : Nat} {a1 : Int32} {a2 : Int32} {a3 : Int32} {a4 : Int32} {a5 : Int32} {a6 : Int32} {σ : PS} : Run false (d + 1) 61 107 [some (.ref 0), some (.int a1), some (.int a2), some (.int a3), some (.int a4), some (.int a5), some (.int a6)] [] σ =
    (bif obl ((nI 5) ≤ a6) then Run false (d + 1) 61 20 [some (.ref 0), some (.int a1), some (.int a2), some (.int a3), some (.int (a4 + (nI 1))), some (.int a5), some (.int a6)] [] σ else aft false (d + 1) 61 138 [some (.ref 0), some (.int a1), some (.int a2), some (.int a3), some (.int a4), some (.int a5), some (.int a6)] [.int (((a3 + a4) * (nI 5)) + a6), .ref 55] (Run false d 54 0 [some (.ref 0), some (.int a5), some (.int a6), some (.int a2), none, none] [] σ)) := by
  rw [Run_go [16, 20, 60, 82, 103, 107, 138, 166] 19]
  rfl
set_option maxRecDepth 100000 in
theorem s61_138 {d : Nat} {a1 : Int32} {a2 : Int32} {a3 : Int32} {a4 : Int32} {a5 : Int32} {a6 : Int32} {r1 : Int32} {r2 : Int32} {σ : PS} : Run false (d + 1) 61 138 [some (.ref 0), some (.int a1), some (.int a2), some (.int a3), some (.int a4), some (.int a5), some (.int a6)] [.int r2, .int r1, .ref 55] σ =
    (bif inb r1 125 then aft false (d + 1) 61 166 [some (.ref 0), some (.int a1), some (.int a2), some (.int a3), some (.int a4), some (.int a5), some (.int a6)] [.int (((a3 + a4) * (nI 5)) + a6), .ref 56] (Run false d 125 0 [some (.ref 17), some (.int a5), some (.int a6)] [] (wAI σ 55 r1.toNatClampNeg r2)) else none) := by
  rw [Run_go [16, 20, 60, 82, 103, 107, 138, 166] 17]
  rfl
theorem s61_166 {d : Nat} {a1 : Int32} {a2 : Int32} {a3 : Int32} {a4 : Int32} {a5 : Int32} {a6 : Int32} {r1 : Int32} {r2 : Int32} {σ : PS} : Run false (d + 1) 61 166 [some (.ref 0), some (.int a1), some (.int a2), some (.int a3), some (.int a4), some (.int a5), some (.int a6)] [.int r2, .int r1, .ref 56] σ =
    (bif inb r1 125 then Run false (d + 1) 61 107 [some (.ref 0), some (.int a1), some (.int a2), some (.int a3), some (.int a4), some (.int a5), some (.int (a6 + (nI 1)))] [] (wAI σ 56 r1.toNatClampNeg r2) else none) := by
  rw [Run_go [16, 20, 60, 82, 103, 107, 138, 166] 4]
  rfl
theorem s62_0 {d : Nat} {a1 : Int32} {a2 : Int32} {σ : PS} : Run false (d + 1) 62 0 [some (.ref 0), some (.int a1), some (.int a2), none] [] σ =
    Run false (d + 1) 62 2 [some (.ref 0), some (.int a1), some (.int a2), some (.int (nI 0))] [] σ := by
  rw [Run_go [2, 24, 45, 78] 3]
  rfl
set_option maxRecDepth 100000 in
theorem s62_2 {d : Nat} {a1 : Int32} {a2 : Int32} {a3 : Int32} {σ : PS} : Run false (d + 1) 62 2 [some (.ref 0), some (.int a1), some (.int a2), some (.int a3)] [] σ =
    (bif obl ((nI 5) ≤ a3) then (bif inb (nI 0) 6 then aft false (d + 1) 62 78 [some (.ref 0), some (.int a1), some (.int a2), some (.int a3)] [.int (AI σ 59 (nI 0).toNatClampNeg), .int (nI 0), .ref 59] (Run false d 126 0 [some (.ref 17), some (.int a1), none, none] [] σ) else none) else (bif inb a3 30 then aft false (d + 1) 62 24 [some (.ref 0), some (.int a1), some (.int a2), some (.int a3)] [.int (AI σ 57 a3.toNatClampNeg), .int a3, .ref 57] (Run false d 54 0 [some (.ref 0), some (.int a1), some (.int a3), some (.int a2), none, none] [] σ) else none)) := by
  rw [Run_go [2, 24, 45, 78] 17]
  rfl
set_option maxRecDepth 100000 in
theorem s62_24 {d : Nat} {a1 : Int32} {a2 : Int32} {a3 : Int32} {r1 : Int32} {r2 : Int32} {r3 : Int32} {σ : PS} : Run false (d + 1) 62 24 [some (.ref 0), some (.int a1), some (.int a2), some (.int a3)] [.int r3, .int r2, .int r1, .ref 57] σ =
    (bif inb r1 30 then (bif inb a3 30 then aft false (d + 1) 62 45 [some (.ref 0), some (.int a1), some (.int a2), some (.int a3)] [.int (AI σ 58 a3.toNatClampNeg), .int a3, .ref 58] (Run false d 125 0 [some (.ref 17), some (.int a1), some (.int a3)] [] (wAI σ 57 r1.toNatClampNeg (r2 + r3))) else none) else none) := by
  rw [Run_go [2, 24, 45, 78] 14]
  rfl
theorem s62_45 {d : Nat} {a1 : Int32} {a2 : Int32} {a3 : Int32} {r1 : Int32} {r2 : Int32} {r3 : Int32} {σ : PS} : Run false (d + 1) 62 45 [some (.ref 0), some (.int a1), some (.int a2), some (.int a3)] [.int r3, .int r2, .int r1, .ref 58] σ =
    (bif inb r1 30 then Run false (d + 1) 62 2 [some (.ref 0), some (.int a1), some (.int a2), some (.int (a3 + (nI 1)))] [] (wAI σ 58 r1.toNatClampNeg (r2 + r3)) else none) := by
  rw [Run_go [2, 24, 45, 78] 5]
  rfl
theorem s62_78 {d : Nat} {a1 : Int32} {a2 : Int32} {a3 : Int32} {r1 : Int32} {r2 : Int32} {r3 : Int32} {σ : PS} : Run false (d + 1) 62 78 [some (.ref 0), some (.int a1), some (.int a2), some (.int a3)] [.int r3, .int r2, .int r1, .ref 59] σ =
    (bif inb r1 6 then some (.inl (none, (wAI σ 59 r1.toNatClampNeg (if r2 < r3 then r3 else r2)))) else none) := by
  rw [Run_go [2, 24, 45, 78] 4]
  rfl
set_option maxRecDepth 100000 in
theorem s63_0 {d : Nat} {a1 : Int32} {b2 : Int64} {σ : PS} : Run false (d + 1) 63 0 [some (.ref 0), some (.int a1), some (.long b2), none, none, none] [] σ =
    (bif obl ((lg_cmp (FL σ 48 1) (lN 0)) < (nI 0)) then (bif obl (a1 < (FI σ 48 0)) then Run false (d + 1) 63 71 [some (.ref 0), some (.int a1), some (.long b2), none, some (.int (nI 0)), none] [] σ else aft false (d + 1) 63 47 [some (.ref 0), some (.int a1), some (.long b2), none, none, none] [] (Run false d 74 0 [some (.ref 48), some (.ref 43), none] [] σ)) else (bif obl ((lg_cmp b2 (FL σ 48 1)) < (nI 0)) then (bif obl (a1 < (FI σ 48 0)) then Run false (d + 1) 63 71 [some (.ref 0), some (.int a1), some (.long b2), none, some (.int (nI 0)), none] [] σ else aft false (d + 1) 63 47 [some (.ref 0), some (.int a1), some (.long b2), none, none, none] [] (Run false d 74 0 [some (.ref 48), some (.ref 43), none] [] σ)) else some (.inl (none, σ)))) := by
  rw [Run_go [47, 63, 67, 71, 116, 136] 23]
  rfl
set_option maxRecDepth 100000 in
theorem s63_47 {d : Nat} {a1 : Int32} {b2 : Int64} {z4 : Option Value} {z5 : Option Value} {σ : PS} : Run false (d + 1) 63 47 [some (.ref 0), some (.int a1), some (.long b2), none, z4, z5] [] σ =
    aft false (d + 1) 63 63 [some (.ref 0), some (.int a1), some (.long b2), none, z4, z5] [.long b2, .ref 48] (Run false d 79 0 [some (.ref 43), some (.ref 1), none, none, none, none, none] [] σ) := by
  rw [Run_go [47, 63, 67, 71, 116, 136] 9]
  rfl
theorem s63_63 {d : Nat} {a1 : Int32} {b2 : Int64} {z4 : Option Value} {z5 : Option Value} {q1 : Int64} {q2 : Int64} {σ : PS} : Run false (d + 1) 63 63 [some (.ref 0), some (.int a1), some (.long b2), none, z4, z5] [.long q2, .long q1, .ref 48] σ =
    aft false (d + 1) 63 67 [some (.ref 0), some (.int a1), some (.long b2), none, z4, z5] [] (Run false d 75 0 [some (.ref 48), some (.long (q1 + q2)), none, none] [] σ) := by
  rw [Run_go [47, 63, 67, 71, 116, 136] 3]
  rfl
theorem s63_67 {d : Nat} {a1 : Int32} {b2 : Int64} {z4 : Option Value} {z5 : Option Value} {σ : PS} : Run false (d + 1) 63 67 [some (.ref 0), some (.int a1), some (.long b2), none, z4, z5] [] σ =
    some (.inl (none, σ)) := by
  rw [Run_go [47, 63, 67, 71, 116, 136] 2]
  rfl
set_option maxRecDepth 100000 in
theorem s63_71 {d : Nat} {a1 : Int32} {b2 : Int64} {a4 : Int32} {z5 : Option Value} {σ : PS} : Run false (d + 1) 63 71 [some (.ref 0), some (.int a1), some (.long b2), none, some (.int a4), z5] [] σ =
    (bif inb a1 5 then (bif obl ((AI σ 49 a1.toNatClampNeg) ≤ a4) then some (.inl (none, σ)) else (bif inb ((a1 * (nI 5)) + a4) 25 then (bif obl ((AI σ 52 ((a1 * (nI 5)) + a4).toNatClampNeg) = (nI 0)) then aft false (d + 1) 63 116 [some (.ref 0), some (.int a1), some (.long b2), none, some (.int a4), some (.int ((a1 * (nI 5)) + a4))] [] (Run false d 73 0 [some (.ref 48), some (.int a1), some (.int a4), none, none, none] [] σ) else Run false (d + 1) 63 136 [some (.ref 0), some (.int a1), some (.long b2), none, some (.int a4), some (.int ((a1 * (nI 5)) + a4))] [] σ) else none)) else none) := by
  rw [Run_go [47, 63, 67, 71, 116, 136] 25]
  rfl
set_option maxRecDepth 100000 in
theorem s63_116 {d : Nat} {a1 : Int32} {b2 : Int64} {a4 : Int32} {a5 : Int32} {σ : PS} : Run false (d + 1) 63 116 [some (.ref 0), some (.int a1), some (.long b2), none, some (.int a4), some (.int a5)] [] σ =
    (bif inb a5 25 then aft false (d + 1) 63 136 [some (.ref 0), some (.int a1), some (.long b2), none, some (.int a4), some (.int a5)] [] (Run false d 63 0 [some (.ref 0), some (.int (a1 + (nI 1))), some (.long (b2 + ((AI σ 53 a5.toNatClampNeg).toInt64))), none, none, none] [] σ) else none) := by
  rw [Run_go [47, 63, 67, 71, 116, 136] 14]
  rfl
theorem s63_136 {d : Nat} {a1 : Int32} {b2 : Int64} {a4 : Int32} {a5 : Int32} {σ : PS} : Run false (d + 1) 63 136 [some (.ref 0), some (.int a1), some (.long b2), none, some (.int a4), some (.int a5)] [] σ =
    Run false (d + 1) 63 71 [some (.ref 0), some (.int a1), some (.long b2), none, some (.int (a4 + (nI 1))), some (.int a5)] [] σ := by
  rw [Run_go [47, 63, 67, 71, 116, 136] 3]
  rfl
set_option maxRecDepth 100000 in
theorem s64_0 {d : Nat} {a1 : Int32} {a2 : Int32} {a3 : Int32} {σ : PS} : Run false (d + 1) 64 0 [some (.ref 0), some (.int a1), some (.int a2), some (.int a3), none, none] [] σ =
    (bif inb ((a2 * (nI 41)) + a3) 205 then aft false (d + 1) 64 26 [some (.ref 0), some (.int a1), some (.int a2), some (.int a3), some (.int (AI σ 84 ((a2 * (nI 41)) + a3).toNatClampNeg)), none] [] (Run false d 100 0 [some (.ref 1), some (.int (nI 217)), some (.int (-1 : Int32)), some (.int a3), some (.int (nI 0)), none] [] σ) else none) := by
  rw [Run_go [26, 33, 64, 88, 101, 146, 168, 176] 17]
  rfl
theorem s64_26 {d : Nat} {a1 : Int32} {a2 : Int32} {a3 : Int32} {a4 : Int32} {z5 : Option Value} {r0 : Int32} {σ : PS} : Run false (d + 1) 64 26 [some (.ref 0), some (.int a1), some (.int a2), some (.int a3), some (.int a4), z5] [.int r0] σ =
    (bif obl (r0 = (nI 1)) then Run false (d + 1) 64 33 [some (.ref 0), some (.int a1), some (.int a2), some (.int a3), some (.int a4), some (.int (nI 0))] [] σ else Run false (d + 1) 64 101 [some (.ref 0), some (.int a1), some (.int a2), some (.int a3), some (.int a4), some (.int (nI 0))] [] σ) := by
  rw [Run_go [26, 33, 64, 88, 101, 146, 168, 176] 5]
  rfl
set_option maxRecDepth 100000 in
theorem s64_33 {d : Nat} {a1 : Int32} {a2 : Int32} {a3 : Int32} {a4 : Int32} {a5 : Int32} {σ : PS} : Run false (d + 1) 64 33 [some (.ref 0), some (.int a1), some (.int a2), some (.int a3), some (.int a4), some (.int a5)] [] σ =
    (bif obl ((FI σ 31 0) ≤ a5) then aft false (d + 1) 64 88 [some (.ref 0), some (.int a1), some (.int a2), some (.int a3), some (.int a4), some (.int a5)] [] (Run false d 89 0 [some (.ref 36), some (.long (a4.toInt64)), none, some (.int (FI σ 31 0)), none, none, none, none, none] [] σ) else aft false (d + 1) 64 64 [some (.ref 0), some (.int a1), some (.int a2), some (.int a3), some (.int a4), some (.int a5)] [.int a5, .ref 40] (Run false d 86 0 [some (.ref 36), some (.int a5), some (.int a2), none, none, none] [] σ)) := by
  rw [Run_go [26, 33, 64, 88, 101, 146, 168, 176] 15]
  rfl
theorem s64_64 {d : Nat} {a1 : Int32} {a2 : Int32} {a3 : Int32} {a4 : Int32} {a5 : Int32} {r1 : Int32} {q2 : Int64} {σ : PS} : Run false (d + 1) 64 64 [some (.ref 0), some (.int a1), some (.int a2), some (.int a3), some (.int a4), some (.int a5)] [.long q2, .int r1, .ref 40] σ =
    (bif inb r1 10 then Run false (d + 1) 64 33 [some (.ref 0), some (.int a1), some (.int a2), some (.int a3), some (.int a4), some (.int (a5 + (nI 1)))] [] (wAL σ 40 r1.toNatClampNeg q2) else none) := by
  rw [Run_go [26, 33, 64, 88, 101, 146, 168, 176] 4]
  rfl
theorem s64_88 {d : Nat} {a1 : Int32} {a2 : Int32} {a3 : Int32} {a4 : Int32} {a5 : Int32} {σ : PS} : Run false (d + 1) 64 88 [some (.ref 0), some (.int a1), some (.int a2), some (.int a3), some (.int a4), some (.int a5)] [] σ =
    (bif inb a1 10 then some (.inl (some (.long (AL σ 41 a1.toNatClampNeg)), σ)) else none) := by
  rw [Run_go [26, 33, 64, 88, 101, 146, 168, 176] 7]
  rfl
set_option maxRecDepth 100000 in
theorem s64_101 {d : Nat} {a1 : Int32} {a2 : Int32} {a3 : Int32} {a4 : Int32} {a5 : Int32} {σ : PS} : Run false (d + 1) 64 101 [some (.ref 0), some (.int a1), some (.int a2), some (.int a3), some (.int a4), some (.int a5)] [] σ =
    (bif obl ((FI σ 0 1) ≤ a5) then aft false (d + 1) 64 168 [some (.ref 0), some (.int a1), some (.int a2), some (.int a3), some (.int a4), some (.int a5)] [] (Run false d 89 0 [some (.ref 36), some (.long (a4.toInt64)), none, some (.int (FI σ 0 1)), none, none, none, none, none] [] σ) else (bif inb a5 10 then (bif obl ((AI σ 38 a5.toNatClampNeg) = (nI 0)) then aft false (d + 1) 64 146 [some (.ref 0), some (.int a1), some (.int a2), some (.int a3), some (.int a4), some (.int a5)] [.int a5, .ref 40] (Run false d 83 0 [some (.ref 36), some (.int a5), some (.int a2)] [] σ) else (bif inb a5 10 then Run false (d + 1) 64 101 [some (.ref 0), some (.int a1), some (.int a2), some (.int a3), some (.int a4), some (.int (a5 + (nI 1)))] [] (wAL σ 40 a5.toNatClampNeg (lN 0)) else none)) else none)) := by
  rw [Run_go [26, 33, 64, 88, 101, 146, 168, 176] 20]
  rfl
theorem s64_146 {d : Nat} {a1 : Int32} {a2 : Int32} {a3 : Int32} {a4 : Int32} {a5 : Int32} {r1 : Int32} {r2 : Int32} {σ : PS} : Run false (d + 1) 64 146 [some (.ref 0), some (.int a1), some (.int a2), some (.int a3), some (.int a4), some (.int a5)] [.int r2, .int r1, .ref 40] σ =
    (bif inb r1 10 then Run false (d + 1) 64 101 [some (.ref 0), some (.int a1), some (.int a2), some (.int a3), some (.int a4), some (.int (a5 + (nI 1)))] [] (wAL σ 40 r1.toNatClampNeg (r2.toInt64)) else none) := by
  rw [Run_go [26, 33, 64, 88, 101, 146, 168, 176] 5]
  rfl
theorem s64_168 {d : Nat} {a1 : Int32} {a2 : Int32} {a3 : Int32} {a4 : Int32} {a5 : Int32} {σ : PS} : Run false (d + 1) 64 168 [some (.ref 0), some (.int a1), some (.int a2), some (.int a3), some (.int a4), some (.int a5)] [] σ =
    aft false (d + 1) 64 176 [some (.ref 0), some (.int a1), some (.int a2), some (.int a3), some (.int a4), some (.int a5)] [] (Run false d 88 0 [some (.ref 36), some (.int a1), none, none, none] [] σ) := by
  rw [Run_go [26, 33, 64, 88, 101, 146, 168, 176] 5]
  rfl
theorem s64_176 {d : Nat} {a1 : Int32} {a2 : Int32} {a3 : Int32} {a4 : Int32} {a5 : Int32} {q0 : Int64} {σ : PS} : Run false (d + 1) 64 176 [some (.ref 0), some (.int a1), some (.int a2), some (.int a3), some (.int a4), some (.int a5)] [.long q0] σ =
    some (.inl (some (.long q0), σ)) := by
  rw [Run_go [26, 33, 64, 88, 101, 146, 168, 176] 2]
  rfl
set_option maxRecDepth 100000 in
theorem s65_0 {d : Nat} {a1 : Int32} {a2 : Int32} {a3 : Int32} {σ : PS} : Run false (d + 1) 65 0 [some (.ref 0), some (.int a1), some (.int a2), some (.int a3), none, none] [] σ =
    aft false (d + 1) 65 13 [some (.ref 0), some (.int a1), some (.int a2), some (.int a3), none, none] [] (Run false d 100 0 [some (.ref 1), some (.int (nI 211)), some (.int a2), some (.int a3), some (.int (nI 0)), none] [] σ) := by
  rw [Run_go [13, 25, 39] 8]
  rfl
set_option maxRecDepth 100000 in
theorem s65_13 {d : Nat} {a1 : Int32} {a2 : Int32} {a3 : Int32} {z4 : Option Value} {z5 : Option Value} {r0 : Int32} {σ : PS} : Run false (d + 1) 65 13 [some (.ref 0), some (.int a1), some (.int a2), some (.int a3), z4, z5] [.int r0] σ =
    aft false (d + 1) 65 25 [some (.ref 0), some (.int a1), some (.int a2), some (.int a3), some (.long (r0.toInt64)), none] [] (Run false d 86 0 [some (.ref 36), some (.int a1), some (.int a2), none, none, none] [] σ) := by
  rw [Run_go [13, 25, 39] 8]
  rfl
set_option maxRecDepth 100000 in
theorem s65_25 {d : Nat} {a1 : Int32} {a2 : Int32} {a3 : Int32} {b4 : Int64} {q0 : Int64} {σ : PS} : Run false (d + 1) 65 25 [some (.ref 0), some (.int a1), some (.int a2), some (.int a3), some (.long b4), none] [.long q0] σ =
    (bif obl ((lN 100) = lN 0) then none else aft false (d + 1) 65 39 [some (.ref 0), some (.int a1), some (.int a2), some (.int a3), some (.long b4), none] [.long ((q0 * b4) / (lN 100))] (Run false d 64 0 [some (.ref 0), some (.int a1), some (.int a2), some (.int a3), none, none] [] σ)) := by
  rw [Run_go [13, 25, 39] 10]
  rfl
theorem s65_39 {d : Nat} {a1 : Int32} {a2 : Int32} {a3 : Int32} {b4 : Int64} {q0 : Int64} {q1 : Int64} {σ : PS} : Run false (d + 1) 65 39 [some (.ref 0), some (.int a1), some (.int a2), some (.int a3), some (.long b4), none] [.long q1, .long q0] σ =
    some (.inl (some (.long (q0 + q1)), σ)) := by
  rw [Run_go [13, 25, 39] 3]
  rfl
set_option maxRecDepth 100000 in
theorem s66_0 {d : Nat} {a1 : Int32} {a2 : Int32} {a3 : Int32} {a4 : Int32} {σ : PS} : Run false (d + 1) 66 0 [some (.ref 0), some (.int a1), some (.int a2), some (.int a3), some (.int a4)] [] σ =
    aft false (d + 1) 66 12 [some (.ref 0), some (.int a1), some (.int a2), some (.int a3), some (.int a4)] [] (Run false d 112 0 [some (.ref 60), some (.int a1), some (.int a2), some (.int a3), some (.int a4), none, none] [] σ) := by
  rw [Run_go [12, 25] 8]
  rfl
set_option maxRecDepth 100000 in
theorem s66_12 {d : Nat} {a1 : Int32} {a2 : Int32} {a3 : Int32} {a4 : Int32} {r0 : Int32} {σ : PS} : Run false (d + 1) 66 12 [some (.ref 0), some (.int a1), some (.int a2), some (.int a3), some (.int a4)] [.int r0] σ =
    aft false (d + 1) 66 25 [some (.ref 0), some (.int a1), some (.int a2), some (.int a3), some (.int a4)] [.long (r0.toInt64)] (Run false d 118 0 [some (.ref 71), some (.int a1), some (.int a2), some (.int a3), some (.int a4), none, none] [] σ) := by
  rw [Run_go [12, 25] 9]
  rfl
theorem s66_25 {d : Nat} {a1 : Int32} {a2 : Int32} {a3 : Int32} {a4 : Int32} {q0 : Int64} {r1 : Int32} {σ : PS} : Run false (d + 1) 66 25 [some (.ref 0), some (.int a1), some (.int a2), some (.int a3), some (.int a4)] [.int r1, .long q0] σ =
    some (.inl (some (.long (q0 + (r1.toInt64))), σ)) := by
  rw [Run_go [12, 25] 4]
  rfl
theorem s67_0 {d : Nat} {a1 : Int32} {a2 : Int32} {a3 : Int32} {a4 : Int32} {σ : PS} : Run false (d + 1) 67 0 [some (.ref 0), some (.int a1), some (.int a2), some (.int a3), some (.int a4)] [] σ =
    aft false (d + 1) 67 8 [some (.ref 0), some (.int a1), some (.int a2), some (.int a3), some (.int a4)] [.long (lN 0)] (Run false d 65 0 [some (.ref 0), some (.int a1), some (.int a2), some (.int a3), none, none] [] σ) := by
  rw [Run_go [8, 17] 7]
  rfl
theorem s67_8 {d : Nat} {a1 : Int32} {a2 : Int32} {a3 : Int32} {a4 : Int32} {q0 : Int64} {q1 : Int64} {σ : PS} : Run false (d + 1) 67 8 [some (.ref 0), some (.int a1), some (.int a2), some (.int a3), some (.int a4)] [.long q1, .long q0] σ =
    aft false (d + 1) 67 17 [some (.ref 0), some (.int a1), some (.int a2), some (.int a3), some (.int a4)] [.long q1, .long q0] (Run false d 66 0 [some (.ref 0), some (.int a1), some (.int a2), some (.int a3), some (.int a4)] [] σ) := by
  rw [Run_go [8, 17] 7]
  rfl
theorem s67_17 {d : Nat} {a1 : Int32} {a2 : Int32} {a3 : Int32} {a4 : Int32} {q0 : Int64} {q1 : Int64} {q2 : Int64} {σ : PS} : Run false (d + 1) 67 17 [some (.ref 0), some (.int a1), some (.int a2), some (.int a3), some (.int a4)] [.long q2, .long q1, .long q0] σ =
    some (.inl (some (.long (if (q1 - q2) < q0 then q0 else (q1 - q2))), σ)) := by
  rw [Run_go [8, 17] 4]
  rfl
theorem s68_0 {d : Nat} {a1 : Int32} {a2 : Int32} {a3 : Int32} {σ : PS} : Run false (d + 1) 68 0 [some (.ref 0), some (.int a1), some (.int a2), some (.int a3), none, none] [] σ =
    aft false (d + 1) 68 9 [some (.ref 0), some (.int a1), some (.int a2), some (.int a3), none, none] [] (Run false d 55 0 [some (.ref 0), some (.int a3), some (.int (FI σ 0 0)), none, none] [] σ) := by
  rw [Run_go [9, 20, 43] 6]
  rfl
set_option maxRecDepth 100000 in
theorem s68_9 {d : Nat} {a1 : Int32} {a2 : Int32} {a3 : Int32} {z4 : Option Value} {z5 : Option Value} {σ : PS} : Run false (d + 1) 68 9 [some (.ref 0), some (.int a1), some (.int a2), some (.int a3), z4, z5] [] σ =
    aft false (d + 1) 68 20 [some (.ref 0), some (.int a1), some (.int a2), some (.int a3), z4, z5] [] (Run false d 67 0 [some (.ref 0), some (.int a1), some (.int a2), some (.int a3), some (.int (FI σ 0 0))] [] σ) := by
  rw [Run_go [9, 20, 43] 8]
  rfl
set_option maxRecDepth 100000 in
theorem s68_20 {d : Nat} {a1 : Int32} {a2 : Int32} {a3 : Int32} {z4 : Option Value} {z5 : Option Value} {q0 : Int64} {σ : PS} : Run false (d + 1) 68 20 [some (.ref 0), some (.int a1), some (.int a2), some (.int a3), z4, z5] [.long q0] σ =
    (bif obl ((nI 0) < (lg_cmp q0 (lN 0))) then aft false (d + 1) 68 43 [some (.ref 0), some (.int a1), some (.int a2), some (.int a3), some (.long q0), none] [] (Run false d 119 0 [some (.ref 71), some (.int a2), some (.long q0), none] [] σ) else Run false (d + 1) 68 43 [some (.ref 0), some (.int a1), some (.int a2), some (.int a3), some (.long q0), none] [.int (nI 0)] σ) := by
  rw [Run_go [9, 20, 43] 11]
  rfl
theorem s68_43 {d : Nat} {a1 : Int32} {a2 : Int32} {a3 : Int32} {b4 : Int64} {r0 : Int32} {σ : PS} : Run false (d + 1) 68 43 [some (.ref 0), some (.int a1), some (.int a2), some (.int a3), some (.long b4), none] [.int r0] σ =
    some (.inl (some (.int r0), σ)) := by
  rw [Run_go [9, 20, 43] 2]
  rfl
set_option maxRecDepth 100000 in
theorem s69_0 {d : Nat} {a1 : Int32} {a2 : Int32} {a3 : Int32} {σ : PS} : Run false (d + 1) 69 0 [some (.ref 0), some (.int a1), some (.int a2), some (.int a3), none] [] σ =
    aft false (d + 1) 69 19 [some (.ref 0), some (.int a1), some (.int a2), some (.int a3), none] [.int a3, .int ((a1 * (nI 5)) + a2), .ref 78] (Run false d 108 0 [some (.ref 60), some (.int a2), some (.int a3), none, none] [] σ) := by
  rw [Run_go [19, 22, 36] 14]
  rfl
theorem s69_19 {d : Nat} {a1 : Int32} {a2 : Int32} {a3 : Int32} {z4 : Option Value} {r1 : Int32} {r2 : Int32} {r3 : Int32} {σ : PS} : Run false (d + 1) 69 19 [some (.ref 0), some (.int a1), some (.int a2), some (.int a3), z4] [.int r3, .int r2, .int r1, .ref 78] σ =
    aft false (d + 1) 69 22 [some (.ref 0), some (.int a1), some (.int a2), some (.int a3), z4] [] (Run false d 158 0 [some (.ref 78), some (.int r1), some (.int r2), some (.int r3)] [] σ) := by
  rw [Run_go [19, 22, 36] 2]
  rfl
set_option maxRecDepth 100000 in
theorem s69_22 {d : Nat} {a1 : Int32} {a2 : Int32} {a3 : Int32} {z4 : Option Value} {r0 : Int32} {σ : PS} : Run false (d + 1) 69 22 [some (.ref 0), some (.int a1), some (.int a2), some (.int a3), z4] [.int r0] σ =
    aft false (d + 1) 69 36 [some (.ref 0), some (.int a1), some (.int a2), some (.int a3), some (.int r0)] [.int r0, .int (nI 0)] (Run false d 83 0 [some (.ref 36), some (.int a1), some (.int a2)] [] σ) := by
  rw [Run_go [19, 22, 36] 9]
  rfl
theorem s69_36 {d : Nat} {a1 : Int32} {a2 : Int32} {a3 : Int32} {a4 : Int32} {r0 : Int32} {r1 : Int32} {r2 : Int32} {σ : PS} : Run false (d + 1) 69 36 [some (.ref 0), some (.int a1), some (.int a2), some (.int a3), some (.int a4)] [.int r2, .int r1, .int r0] σ =
    some (.inl (some (.int (if r0 < (r1 - r2) then (r1 - r2) else r0)), σ)) := by
  rw [Run_go [19, 22, 36] 4]
  rfl
set_option maxRecDepth 100000 in
theorem s71_0 {d : Nat}  {σ : PS} : Run false (d + 1) 71 0 [some (.ref 48), none] [] σ =
    (bif inb (nI 0) 6 then Run false (d + 1) 71 21 [some (.ref 48), some (.int (nI 0))] [] (wAI (wFL (wFI σ 48 0 (nI 0)) 48 1 (-1 : Int64)) 59 (nI 0).toNatClampNeg (nI 0)) else none) := by
  rw [Run_go [21] 14]
  rfl
set_option maxRecDepth 100000 in
theorem s71_21 {d : Nat} {a1 : Int32} {σ : PS} : Run false (d + 1) 71 21 [some (.ref 48), some (.int a1)] [] σ =
    (bif obl ((nI 5) ≤ a1) then some (.inl (none, σ)) else (bif inb a1 30 then (bif inb a1 30 then Run false (d + 1) 71 21 [some (.ref 48), some (.int (a1 + (nI 1)))] [] (wAI (wAI σ 57 a1.toNatClampNeg (nI 0)) 58 a1.toNatClampNeg (nI 0)) else none) else none)) := by
  rw [Run_go [21] 16]
  rfl
set_option maxRecDepth 100000 in
theorem s72_0 {d : Nat} {a1 : Int32} {σ : PS} : Run false (d + 1) 72 0 [some (.ref 48), some (.int a1)] [] σ =
    (bif inb (FI σ 48 0) 5 then some (.inl (some (.int ((((FI σ 48 0) + (nI 1)) - (nI 1)) * (nI 5))), (wFI (wAI σ 49 (FI σ 48 0).toNatClampNeg a1) 48 0 ((FI σ 48 0) + (nI 1))))) else none) := by
  rw [Run_go [] 20]
  rfl
set_option maxRecDepth 100000 in
theorem s73_0 {d : Nat} {a1 : Int32} {a2 : Int32} {σ : PS} : Run false (d + 1) 73 0 [some (.ref 48), some (.int a1), some (.int a2), none, none, none] [] σ =
    (bif inb a1 5 then (bif inb a1 6 then (bif inb ((a1 * (nI 5)) + a2) 25 then (bif inb (a1 + (nI 1)) 6 then Run false (d + 1) 73 39 [some (.ref 48), some (.int a1), some (.int a2), some (.int ((a1 * (nI 5)) + a2)), some (.int (nI 0)), none] [] (wAI (wAI σ 51 a1.toNatClampNeg a2) 59 (a1 + (nI 1)).toNatClampNeg (if (AI σ 59 a1.toNatClampNeg) < (AI σ 54 ((a1 * (nI 5)) + a2).toNatClampNeg) then (AI σ 54 ((a1 * (nI 5)) + a2).toNatClampNeg) else (AI σ 59 a1.toNatClampNeg))) else none) else none) else none) else none) := by
  rw [Run_go [39] 29]
  rfl
set_option maxRecDepth 100000 in
theorem s73_39 {d : Nat} {a1 : Int32} {a2 : Int32} {a3 : Int32} {a4 : Int32} {z5 : Option Value} {σ : PS} : Run false (d + 1) 73 39 [some (.ref 48), some (.int a1), some (.int a2), some (.int a3), some (.int a4), z5] [] σ =
    (bif obl ((nI 5) ≤ a4) then some (.inl (none, σ)) else (bif inb ((a1 * (nI 5)) + a4) 30 then (bif inb ((a3 * (nI 5)) + a4) 125 then (bif inb (((a1 * (nI 5)) + a4) + (nI 5)) 30 then (bif inb ((a1 * (nI 5)) + a4) 30 then (bif inb ((a3 * (nI 5)) + a4) 125 then (bif inb (((a1 * (nI 5)) + a4) + (nI 5)) 30 then Run false (d + 1) 73 39 [some (.ref 48), some (.int a1), some (.int a2), some (.int a3), some (.int (a4 + (nI 1))), some (.int ((a1 * (nI 5)) + a4))] [] (wAI (wAI σ 57 (((a1 * (nI 5)) + a4) + (nI 5)).toNatClampNeg ((AI σ 57 ((a1 * (nI 5)) + a4).toNatClampNeg) + (AI σ 55 ((a3 * (nI 5)) + a4).toNatClampNeg))) 58 (((a1 * (nI 5)) + a4) + (nI 5)).toNatClampNeg ((AI σ 58 ((a1 * (nI 5)) + a4).toNatClampNeg) + (AI σ 56 ((a3 * (nI 5)) + a4).toNatClampNeg))) else none) else none) else none) else none) else none) else none)) := by
  rw [Run_go [39] 50]
  rfl
set_option maxRecDepth 100000 in
theorem s74_0 {d : Nat}  {σ : PS} : Run false (d + 1) 74 0 [some (.ref 48), some (.ref 43), none] [] σ =
    (bif inb (FI σ 48 0) 6 then Run false (d + 1) 74 15 [some (.ref 48), some (.ref 43), some (.int (nI 0))] [] (wFI σ 43 2 (AI σ 59 (FI σ 48 0).toNatClampNeg)) else none) := by
  rw [Run_go [15] 10]
  rfl
set_option maxRecDepth 100000 in
theorem s74_15 {d : Nat} {a2 : Int32} {σ : PS} : Run false (d + 1) 74 15 [some (.ref 48), some (.ref 43), some (.int a2)] [] σ =
    (bif obl ((nI 5) ≤ a2) then some (.inl (none, σ)) else (bif inb (((FI σ 48 0) * (nI 5)) + a2) 30 then (bif inb a2 5 then (bif inb (((FI σ 48 0) * (nI 5)) + a2) 30 then (bif inb a2 5 then Run false (d + 1) 74 15 [some (.ref 48), some (.ref 43), some (.int (a2 + (nI 1)))] [] (wAI (wAI σ 45 a2.toNatClampNeg (AI σ 57 (((FI σ 48 0) * (nI 5)) + a2).toNatClampNeg)) 47 a2.toNatClampNeg (AI σ 58 (((FI σ 48 0) * (nI 5)) + a2).toNatClampNeg)) else none) else none) else none) else none)) := by
  rw [Run_go [15] 32]
  rfl
set_option maxRecDepth 100000 in
theorem s75_0 {d : Nat} {b1 : Int64} {σ : PS} : Run false (d + 1) 75 0 [some (.ref 48), some (.long b1), none, none] [] σ =
    (bif obl ((lg_cmp (FL σ 48 1) (lN 0)) < (nI 0)) then Run false (d + 1) 75 26 [some (.ref 48), some (.long b1), none, some (.int (nI 0))] [] (wFL σ 48 1 b1) else (bif obl ((lg_cmp b1 (FL σ 48 1)) < (nI 0)) then Run false (d + 1) 75 26 [some (.ref 48), some (.long b1), none, some (.int (nI 0))] [] (wFL σ 48 1 b1) else some (.inl (none, σ)))) := by
  rw [Run_go [26] 16]
  rfl
set_option maxRecDepth 100000 in
theorem s75_26 {d : Nat} {b1 : Int64} {a3 : Int32} {σ : PS} : Run false (d + 1) 75 26 [some (.ref 48), some (.long b1), none, some (.int a3)] [] σ =
    (bif obl ((FI σ 48 0) ≤ a3) then some (.inl (none, σ)) else (bif inb a3 5 then (bif inb a3 5 then Run false (d + 1) 75 26 [some (.ref 48), some (.long b1), none, some (.int (a3 + (nI 1)))] [] (wAI σ 50 a3.toNatClampNeg (AI σ 51 a3.toNatClampNeg)) else none) else none)) := by
  rw [Run_go [26] 15]
  rfl
set_option maxRecDepth 100000 in
theorem s77_0 {d : Nat} {a1 : Int32} {a2 : Int32} {a3 : Int32} {a4 : Int32} {σ : PS} : Run false (d + 1) 77 0 [some (.ref 26), some (.int a1), some (.int a2), some (.int a3), some (.int a4)] [] σ =
    (bif obl ((FI σ 26 0) < (nI 200)) then (bif inb (FI σ 26 0) 200 then (bif inb (FI σ 26 0) 200 then (bif inb (FI σ 26 0) 200 then (bif inb (FI σ 26 0) 200 then some (.inl (some (.int ((FI σ 26 0) + (nI 1))), (wFI (wAI (wAI (wAI (wAI σ 27 (FI σ 26 0).toNatClampNeg a1) 28 (FI σ 26 0).toNatClampNeg a2) 29 (FI σ 26 0).toNatClampNeg a3) 30 (FI σ 26 0).toNatClampNeg a4) 26 0 ((FI σ 26 0) + (nI 1))))) else none) else none) else none) else none) else some (.inl (some (.int (-1 : Int32)), σ))) := by
  rw [Run_go [] 38]
  rfl
