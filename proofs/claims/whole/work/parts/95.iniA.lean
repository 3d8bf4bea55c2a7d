/-! THE LAW: the constructors (printed by wip/whole/genini.py) -/

set_option maxRecDepth 100000 in
theorem i0_0 {d : Nat} {f a : Nat → Nat → Int32} {g b : Nat → Nat → Int64} {C S L : Nat} {R : Nat → Nat → Bool} : Run true (d + 1) 0 0 [some (.ref 0)] [] (f, g, a, b, C, S, 1, L, R) =
    aft true (d + 1) 0 22 [some (.ref 0)] [.ref 1, .ref 0] (Run true d 91 0 [some (.ref 1)] [] ((uo (u2 (u2 f 0 0 (nI 0)) 0 1 (nI 0)) 1 0), (uo g 1 0), a, b, (C + 1), (S + 13), 2, L, (uo R 1 false))) := by
  rw [Run_go [] 12]
  rfl

set_option maxRecDepth 100000 in
theorem i91_0 {d : Nat} {f a : Nat → Nat → Int32} {g b : Nat → Nat → Int64} {C S L : Nat} {R : Nat → Nat → Bool} : Run true (d + 1) 91 0 [some (.ref 1)] [] (f, g, a, b, C, S, 2, L, R) =
    Run true (d + 1) 91 89 [some (.ref 1)] [] (f, g, (uo (uo (uo (uo (uo (uo (uo (uo (uo (uo a 2 0) 3 0) 4 0) 5 0) 6 0) 7 0) 8 0) 9 0) 10 0) 11 0), (uo (uo (uo (uo (uo (uo (uo (uo (uo (uo b 2 0) 3 0) 4 0) 5 0) 6 0) 7 0) 8 0) 9 0) 10 0) 11 0), ((((((((((C + 1) + 1) + 1) + 1) + 1) + 1) + 1) + 1) + 1) + 1), ((((((((((S + 11) + 11) + 176) + 176) + 176) + 176) + 176) + 4400) + 5) + 64), 12, L, (u2 (u2 (u2 (u2 (u2 (u2 (u2 (u2 (u2 (u2 R 1 3 true) 1 4 true) 1 5 true) 1 6 true) 1 7 true) 1 8 true) 1 9 true) 1 10 true) 1 11 true) 1 12 true)) := by
  rw [Run_go [89] 42]
  rfl

set_option maxRecDepth 100000 in
theorem i91_89 {d : Nat} {f a : Nat → Nat → Int32} {g b : Nat → Nat → Int64} {C S L : Nat} {R : Nat → Nat → Bool} : Run true (d + 1) 91 89 [some (.ref 1)] [] (f, g, a, b, C, S, 12, L, R) =
    some (.inl (none, (f, g, a, b, C, S, 12, L, R))) := by
  rw [Run_go [] 1]
  rfl

set_option maxRecDepth 100000 in
theorem i0_22 {d : Nat} {f a : Nat → Nat → Int32} {g b : Nat → Nat → Int64} {C S L : Nat} {R : Nat → Nat → Bool} : Run true (d + 1) 0 22 [some (.ref 0)] [.ref 1, .ref 0] (f, g, a, b, C, S, 12, L, R) =
    aft true (d + 1) 0 37 [some (.ref 0)] [.ref 12, .ref 0] (Run true d 130 0 [some (.ref 12), some (.ref 1)] [] ((uo f 12 0), (uo g 12 0), a, b, (C + 1), (S + 12), 13, L, (uo (u2 R 0 2 true) 12 false))) := by
  rw [Run_go [] 7]
  rfl

set_option maxRecDepth 100000 in
theorem i130_0 {d : Nat} {f a : Nat → Nat → Int32} {g b : Nat → Nat → Int64} {C S L : Nat} {R : Nat → Nat → Bool} : Run true (d + 1) 130 0 [some (.ref 12), some (.ref 1)] [] (f, g, a, b, C, S, 13, L, R) =
    some (.inl (none, ((u2 f 12 1 (-1 : Int32)), g, (uo (uo (uo (uo a 13 0) 14 0) 15 0) 16 0), (uo (uo (uo (uo b 13 0) 14 0) 15 0) 16 0), ((((C + 1) + 1) + 1) + 1), ((((S + 400) + 401) + 401) + 401), 17, L, (u2 (u2 (u2 (u2 (u2 R 12 11 true) 12 7 true) 12 8 true) 12 9 true) 12 10 true)))) := by
  rw [Run_go [] 25]
  rfl

set_option maxRecDepth 100000 in
theorem i0_37 {d : Nat} {f a : Nat → Nat → Int32} {g b : Nat → Nat → Int64} {C S L : Nat} {R : Nat → Nat → Bool} : Run true (d + 1) 0 37 [some (.ref 0)] [.ref 12, .ref 0] (f, g, a, b, C, S, 17, L, R) =
    aft true (d + 1) 0 48 [some (.ref 0)] [.ref 17, .ref 0] (Run true d 121 0 [some (.ref 17), none] [] ((uo f 17 0), (uo g 17 0), a, b, (C + 1), (S + 9), 18, L, (uo (u2 R 0 3 true) 17 false))) := by
  rw [Run_go [] 5]
  rfl

set_option maxRecDepth 100000 in
theorem i121_0 {d : Nat} {f a : Nat → Nat → Int32} {g b : Nat → Nat → Int64} {C S L : Nat} {R : Nat → Nat → Bool} : Run true (d + 1) 121 0 [some (.ref 17), none] [] (f, g, a, b, C, S, 18, L, R) =
    Run true (d + 1) 121 57 [some (.ref 17), some (.int (nI 0))] [] (f, g, (uo (uo (uo (uo (uo (uo a 18 0) 19 0) 20 0) 21 0) 22 0) 23 0), (uo (uo (uo (uo (uo (uo b 18 0) 19 0) 20 0) 21 0) 22 0) 23 0), ((((((C + 1) + 1) + 1) + 1) + 1) + 1), ((((((S + 20) + 20) + 20) + 820) + 820) + 820), 24, L, (u2 (u2 (u2 (u2 (u2 (u2 R 17 1 true) 17 2 true) 17 3 true) 17 4 true) 17 5 true) 17 6 true)) := by
  rw [Run_go [57, 79] 28]
  rfl

set_option maxRecDepth 100000 in
theorem i121_79 {d : Nat} {f a : Nat → Nat → Int32} {g b : Nat → Nat → Int64} {C S L : Nat} {R : Nat → Nat → Bool} : Run true (d + 1) 121 79 [some (.ref 17), some (.int (nI 820))] [] (f, g, a, b, C, S, 24, L, R) =
    some (.inl (none, (f, g, (uo (uo a 24 0) 25 0), (uo (uo b 24 0) 25 0), ((C + 1) + 1), ((S + 500) + 100), 26, L, (u2 (u2 R 17 7 true) 17 8 true)))) := by
  rw [Run_go [57] 9]
  rfl

set_option maxRecDepth 100000 in
theorem i0_48 {d : Nat} {f a : Nat → Nat → Int32} {g b : Nat → Nat → Int64} {C S L : Nat} {R : Nat → Nat → Bool} : Run true (d + 1) 0 48 [some (.ref 0)] [.ref 17, .ref 0] (f, g, a, b, C, S, 26, L, R) =
    aft true (d + 1) 0 59 [some (.ref 0)] [.ref 26, .ref 0] (Run true d 76 0 [some (.ref 26)] [] ((uo f 26 0), (uo g 26 0), a, b, (C + 1), (S + 5), 27, L, (uo (u2 R 0 4 true) 26 false))) := by
  rw [Run_go [] 5]
  rfl

set_option maxRecDepth 100000 in
theorem i76_0 {d : Nat} {f a : Nat → Nat → Int32} {g b : Nat → Nat → Int64} {C S L : Nat} {R : Nat → Nat → Bool} : Run true (d + 1) 76 0 [some (.ref 26)] [] (f, g, a, b, C, S, 27, L, R) =
    some (.inl (none, (f, g, (uo (uo (uo (uo a 27 0) 28 0) 29 0) 30 0), (uo (uo (uo (uo b 27 0) 28 0) 29 0) 30 0), ((((C + 1) + 1) + 1) + 1), ((((S + 200) + 200) + 200) + 200), 31, L, (u2 (u2 (u2 (u2 R 26 1 true) 26 2 true) 26 3 true) 26 4 true)))) := by
  rw [Run_go [] 19]
  rfl

set_option maxRecDepth 100000 in
theorem i0_59 {d : Nat} {f a : Nat → Nat → Int32} {g b : Nat → Nat → Int64} {C S L : Nat} {R : Nat → Nat → Bool} : Run true (d + 1) 0 59 [some (.ref 0)] [.ref 26, .ref 0] (f, g, a, b, C, S, 31, L, R) =
    aft true (d + 1) 0 70 [some (.ref 0)] [.ref 31, .ref 0] (Run true d 161 0 [some (.ref 31)] [] ((uo f 31 0), (uo g 31 0), a, b, (C + 1), (S + 6), 32, L, (uo (u2 R 0 5 true) 31 false))) := by
  rw [Run_go [] 5]
  rfl

set_option maxRecDepth 100000 in
theorem i161_0 {d : Nat} {f a : Nat → Nat → Int32} {g b : Nat → Nat → Int64} {C S L : Nat} {R : Nat → Nat → Bool} : Run true (d + 1) 161 0 [some (.ref 31)] [] (f, g, a, b, C, S, 32, L, R) =
    some (.inl (none, (f, g, (uo (uo (uo (uo a 32 0) 33 0) 34 0) 35 0), (uo (uo (uo (uo b 32 0) 33 0) 34 0) 35 0), ((((C + 1) + 1) + 1) + 1), ((((S + 4) + 60) + 60) + 60), 36, L, (u2 (u2 (u2 (u2 R 31 2 true) 31 3 true) 31 4 true) 31 5 true)))) := by
  rw [Run_go [] 19]
  rfl

set_option maxRecDepth 100000 in
theorem i0_70 {d : Nat} {f a : Nat → Nat → Int32} {g b : Nat → Nat → Int64} {C S L : Nat} {R : Nat → Nat → Bool} : Run true (d + 1) 0 70 [some (.ref 0)] [.ref 31, .ref 0] (f, g, a, b, C, S, 36, L, R) =
    aft true (d + 1) 0 81 [some (.ref 0)] [.ref 36, .ref 0] (Run true d 81 0 [some (.ref 36)] [] ((uo f 36 0), (uo g 36 0), a, b, (C + 1), (S + 7), 37, L, (uo (u2 R 0 6 true) 36 false))) := by
  rw [Run_go [] 5]
  rfl

set_option maxRecDepth 100000 in
theorem i81_0 {d : Nat} {f a : Nat → Nat → Int32} {g b : Nat → Nat → Int64} {C S L : Nat} {R : Nat → Nat → Bool} : Run true (d + 1) 81 0 [some (.ref 36)] [] (f, g, a, b, C, S, 37, L, R) =
    some (.inl (none, (f, g, (uo (uo (uo (uo (uo (uo a 37 0) 38 0) 39 0) 40 0) 41 0) 42 0), (uo (uo (uo (uo (uo (uo b 37 0) 38 0) 39 0) 40 0) 41 0) 42 0), ((((((C + 1) + 1) + 1) + 1) + 1) + 1), ((((((S + 50) + 10) + 10) + 10) + 10) + 10), 43, L, (u2 (u2 (u2 (u2 (u2 (u2 R 36 0 true) 36 1 true) 36 2 true) 36 3 true) 36 4 true) 36 5 true)))) := by
  rw [Run_go [] 27]
  rfl

set_option maxRecDepth 100000 in
theorem i0_81 {d : Nat} {f a : Nat → Nat → Int32} {g b : Nat → Nat → Int64} {C S L : Nat} {R : Nat → Nat → Bool} : Run true (d + 1) 0 81 [some (.ref 0)] [.ref 36, .ref 0] (f, g, a, b, C, S, 43, L, R) =
    aft true (d + 1) 0 92 [some (.ref 0)] [.ref 43, .ref 0] (Run true d 78 0 [some (.ref 43)] [] ((uo f 43 0), (uo g 43 0), a, b, (C + 1), (S + 7), 44, L, (uo (u2 R 0 7 true) 43 false))) := by
  rw [Run_go [] 5]
  rfl

set_option maxRecDepth 100000 in
theorem i78_0 {d : Nat} {f a : Nat → Nat → Int32} {g b : Nat → Nat → Int64} {C S L : Nat} {R : Nat → Nat → Bool} : Run true (d + 1) 78 0 [some (.ref 43)] [] (f, g, a, b, C, S, 44, L, R) =
    some (.inl (none, (f, g, (uo (uo (uo (uo a 44 0) 45 0) 46 0) 47 0), (uo (uo (uo (uo b 44 0) 45 0) 46 0) 47 0), ((((C + 1) + 1) + 1) + 1), ((((S + 5) + 5) + 5) + 5), 48, L, (u2 (u2 (u2 (u2 R 43 3 true) 43 4 true) 43 5 true) 43 6 true)))) := by
  rw [Run_go [] 19]
  rfl

set_option maxRecDepth 100000 in
theorem i0_92 {d : Nat} {f a : Nat → Nat → Int32} {g b : Nat → Nat → Int64} {C S L : Nat} {R : Nat → Nat → Bool} : Run true (d + 1) 0 92 [some (.ref 0)] [.ref 43, .ref 0] (f, g, a, b, C, S, 48, L, R) =
    aft true (d + 1) 0 103 [some (.ref 0)] [.ref 48, .ref 0] (Run true d 70 0 [some (.ref 48)] [] ((uo f 48 0), (uo g 48 0), a, b, (C + 1), (S + 13), 49, L, (uo (u2 R 0 8 true) 48 false))) := by
  rw [Run_go [] 5]
  rfl

set_option maxRecDepth 100000 in
theorem i70_0 {d : Nat} {f a : Nat → Nat → Int32} {g b : Nat → Nat → Int64} {C S L : Nat} {R : Nat → Nat → Bool} : Run true (d + 1) 70 0 [some (.ref 48)] [] (f, g, a, b, C, S, 49, L, R) =
    Run true (d + 1) 70 81 [some (.ref 48)] [] (f, g, (uo (uo (uo (uo (uo (uo (uo (uo (uo (uo a 49 0) 50 0) 51 0) 52 0) 53 0) 54 0) 55 0) 56 0) 57 0) 58 0), (uo (uo (uo (uo (uo (uo (uo (uo (uo (uo b 49 0) 50 0) 51 0) 52 0) 53 0) 54 0) 55 0) 56 0) 57 0) 58 0), ((((((((((C + 1) + 1) + 1) + 1) + 1) + 1) + 1) + 1) + 1) + 1), ((((((((((S + 5) + 5) + 5) + 25) + 25) + 25) + 125) + 125) + 30) + 30), 59, L, (u2 (u2 (u2 (u2 (u2 (u2 (u2 (u2 (u2 (u2 R 48 2 true) 48 3 true) 48 12 true) 48 4 true) 48 5 true) 48 6 true) 48 7 true) 48 8 true) 48 9 true) 48 10 true)) := by
  rw [Run_go [81] 42]
  rfl

set_option maxRecDepth 100000 in
theorem i70_81 {d : Nat} {f a : Nat → Nat → Int32} {g b : Nat → Nat → Int64} {C S L : Nat} {R : Nat → Nat → Bool} : Run true (d + 1) 70 81 [some (.ref 48)] [] (f, g, a, b, C, S, 59, L, R) =
    some (.inl (none, (f, g, (uo a 59 0), (uo b 59 0), (C + 1), (S + 6), 60, L, (u2 R 48 11 true)))) := by
  rw [Run_go [] 5]
  rfl

set_option maxRecDepth 100000 in
theorem i0_103 {d : Nat} {f a : Nat → Nat → Int32} {g b : Nat → Nat → Int64} {C S L : Nat} {R : Nat → Nat → Bool} : Run true (d + 1) 0 103 [some (.ref 0)] [.ref 48, .ref 0] (f, g, a, b, C, S, 60, L, R) =
    aft true (d + 1) 0 114 [some (.ref 0)] [.ref 60, .ref 0] (Run true d 104 0 [some (.ref 60)] [] ((uo f 60 0), (uo g 60 0), a, b, (C + 1), (S + 13), 61, L, (uo (u2 R 0 9 true) 60 false))) := by
  rw [Run_go [] 5]
  rfl

set_option maxRecDepth 100000 in
theorem i104_0 {d : Nat} {f a : Nat → Nat → Int32} {g b : Nat → Nat → Int64} {C S L : Nat} {R : Nat → Nat → Bool} : Run true (d + 1) 104 0 [some (.ref 60)] [] (f, g, a, b, C, S, 61, L, R) =
    Run true (d + 1) 104 85 [some (.ref 60)] [] (f, g, (uo (uo (uo (uo (uo (uo (uo (uo (uo (uo a 61 0) 62 0) 63 0) 64 0) 65 0) 66 0) 67 0) 68 0) 69 0) 70 0), (uo (uo (uo (uo (uo (uo (uo (uo (uo (uo b 61 0) 62 0) 63 0) 64 0) 65 0) 66 0) 67 0) 68 0) 69 0) 70 0), ((((((((((C + 1) + 1) + 1) + 1) + 1) + 1) + 1) + 1) + 1) + 1), ((((((((((S + 60) + 60) + 60) + 300) + 100) + 100) + 100) + 100) + 100) + 100), 71, L, (u2 (u2 (u2 (u2 (u2 (u2 (u2 (u2 (u2 (u2 R 60 3 true) 60 4 true) 60 6 true) 60 7 true) 60 5 true) 60 8 true) 60 9 true) 60 10 true) 60 11 true) 60 12 true)) := by
  rw [Run_go [85] 42]
  rfl

set_option maxRecDepth 100000 in
theorem i104_85 {d : Nat} {f a : Nat → Nat → Int32} {g b : Nat → Nat → Int64} {C S L : Nat} {R : Nat → Nat → Bool} : Run true (d + 1) 104 85 [some (.ref 60)] [] (f, g, a, b, C, S, 71, L, R) =
    some (.inl (none, (f, g, a, b, C, S, 71, L, R))) := by
  rw [Run_go [] 1]
  rfl

set_option maxRecDepth 100000 in
theorem i0_114 {d : Nat} {f a : Nat → Nat → Int32} {g b : Nat → Nat → Int64} {C S L : Nat} {R : Nat → Nat → Bool} : Run true (d + 1) 0 114 [some (.ref 0)] [.ref 60, .ref 0] (f, g, a, b, C, S, 71, L, R) =
    aft true (d + 1) 0 125 [some (.ref 0)] [.ref 71, .ref 0] (Run true d 113 0 [some (.ref 71)] [] ((uo f 71 0), (uo g 71 0), a, b, (C + 1), (S + 10), 72, L, (uo (u2 R 0 10 true) 71 false))) := by
  rw [Run_go [] 5]
  rfl

set_option maxRecDepth 100000 in
theorem i113_0 {d : Nat} {f a : Nat → Nat → Int32} {g b : Nat → Nat → Int64} {C S L : Nat} {R : Nat → Nat → Bool} : Run true (d + 1) 113 0 [some (.ref 71)] [] (f, g, a, b, C, S, 72, L, R) =
    some (.inl (none, (f, g, (uo (uo (uo (uo (uo (uo a 72 0) 73 0) 74 0) 75 0) 76 0) 77 0), (uo (uo (uo (uo (uo (uo b 72 0) 73 0) 74 0) 75 0) 76 0) 77 0), ((((((C + 1) + 1) + 1) + 1) + 1) + 1), ((((((S + 12) + 12) + 12) + 12) + 12) + 12), 78, L, (u2 (u2 (u2 (u2 (u2 (u2 R 71 4 true) 71 5 true) 71 6 true) 71 7 true) 71 8 true) 71 9 true)))) := by
  rw [Run_go [] 27]
  rfl

set_option maxRecDepth 100000 in
theorem i0_125 {d : Nat} {f a : Nat → Nat → Int32} {g b : Nat → Nat → Int64} {C S L : Nat} {R : Nat → Nat → Bool} : Run true (d + 1) 0 125 [some (.ref 0)] [.ref 71, .ref 0] (f, g, a, b, C, S, 78, L, R) =
    aft true (d + 1) 0 136 [some (.ref 0)] [.ref 78, .ref 0] (Run true d 154 0 [some (.ref 78)] [] ((uo f 78 0), (uo g 78 0), a, b, (C + 1), (S + 7), 79, L, (uo (u2 R 0 11 true) 78 false))) := by
  rw [Run_go [] 5]
  rfl

set_option maxRecDepth 100000 in
theorem i154_0 {d : Nat} {f a : Nat → Nat → Int32} {g b : Nat → Nat → Int64} {C S L : Nat} {R : Nat → Nat → Bool} : Run true (d + 1) 154 0 [some (.ref 78)] [] (f, g, a, b, C, S, 79, L, R) =
    some (.inl (none, (f, g, (uo (uo (uo (uo a 79 0) 80 0) 81 0) 82 0), (uo (uo (uo (uo b 79 0) 80 0) 81 0) 82 0), ((((C + 1) + 1) + 1) + 1), ((((S + 60) + 60) + 60) + 60), 83, L, (u2 (u2 (u2 (u2 R 78 3 true) 78 4 true) 78 5 true) 78 6 true)))) := by
  rw [Run_go [] 19]
  rfl

set_option maxRecDepth 100000 in
theorem i0_136 {d : Nat} {f a : Nat → Nat → Int32} {g b : Nat → Nat → Int64} {C S L : Nat} {R : Nat → Nat → Bool} : Run true (d + 1) 0 136 [some (.ref 0)] [.ref 78, .ref 0] (f, g, a, b, C, S, 83, L, R) =
    some (.inl (none, (f, g, (uo (uo a 83 0) 84 0), (uo (uo b 83 0) 84 0), ((C + 1) + 1), ((S + 410) + 205), 85, L, (u2 (u2 (u2 R 0 12 true) 0 13 true) 0 14 true)))) := by
  rw [Run_go [] 10]
  rfl

set_option maxRecDepth 100000 in
theorem i167_0 {d : Nat} {f a : Nat → Nat → Int32} {g b : Nat → Nat → Int64} {C S L : Nat} {R : Nat → Nat → Bool} : Run true (d + 1) 167 0 [some (.ref 85)] [] (f, g, a, b, C, S, 86, L, R) =
    Run true (d + 1) 167 88 [some (.ref 85)] [] ((u2 f 85 11 (-1 : Int32)), g, (uo (uo (uo (uo (uo (uo (uo (uo (uo a 86 0) 87 0) 88 0) 89 0) 90 0) 91 0) 92 0) 93 0) 94 0), (uo (uo (uo (uo (uo (uo (uo (uo (uo b 86 0) 87 0) 88 0) 89 0) 90 0) 91 0) 92 0) 93 0) 94 0), (((((((((C + 1) + 1) + 1) + 1) + 1) + 1) + 1) + 1) + 1), (((((((((S + 400) + 11) + 11) + 176) + 176) + 176) + 176) + 176) + 4400), 95, L, (u2 (u2 (u2 (u2 (u2 (u2 (u2 (u2 (u2 R 85 12 true) 85 13 true) 85 14 true) 85 15 true) 85 16 true) 85 17 true) 85 18 true) 85 19 true) 85 20 true)) := by
  rw [Run_go [88] 41]
  rfl

set_option maxRecDepth 100000 in
theorem i167_88 {d : Nat} {f a : Nat → Nat → Int32} {g b : Nat → Nat → Int64} {C S L : Nat} {R : Nat → Nat → Bool} : Run true (d + 1) 167 88 [some (.ref 85)] [] (f, g, a, b, C, S, 95, L, R) =
    Run true (d + 1) 167 174 [some (.ref 85)] [] (f, g, (uo (uo (uo (uo (uo (uo (uo (uo (uo (uo a 95 0) 96 0) 97 0) 98 0) 99 0) 100 0) 101 0) 102 0) 103 0) 104 0), (uo (uo (uo (uo (uo (uo (uo (uo (uo (uo b 95 0) 96 0) 97 0) 98 0) 99 0) 100 0) 101 0) 102 0) 103 0) 104 0), ((((((((((C + 1) + 1) + 1) + 1) + 1) + 1) + 1) + 1) + 1) + 1), ((((((((((S + 4400) + 200) + 20) + 20) + 20) + 500) + 100) + 820) + 820) + 820), 105, L, (u2 (u2 (u2 (u2 (u2 (u2 (u2 (u2 (u2 (u2 R 85 21 true) 85 28 true) 85 31 true) 85 32 true) 85 33 true) 85 34 true) 85 35 true) 85 36 true) 85 37 true) 85 38 true)) := by
  rw [Run_go [174] 40]
  rfl

set_option maxRecDepth 100000 in
theorem i167_174 {d : Nat} {f a : Nat → Nat → Int32} {g b : Nat → Nat → Int64} {C S L : Nat} {R : Nat → Nat → Bool} : Run true (d + 1) 167 174 [some (.ref 85)] [] (f, g, a, b, C, S, 105, L, R) =
    Run true (d + 1) 167 262 [some (.ref 85)] [] ((u2 f 85 45 (-1 : Int32)), g, (uo (uo (uo (uo (uo (uo (uo (uo (uo (uo a 105 0) 106 0) 107 0) 108 0) 109 0) 110 0) 111 0) 112 0) 113 0) 114 0), (uo (uo (uo (uo (uo (uo (uo (uo (uo (uo b 105 0) 106 0) 107 0) 108 0) 109 0) 110 0) 111 0) 112 0) 113 0) 114 0), ((((((((((C + 1) + 1) + 1) + 1) + 1) + 1) + 1) + 1) + 1) + 1), ((((((((((S + 200) + 200) + 200) + 200) + 200) + 410) + 5) + 5) + 5) + 60), 115, L, (u2 (u2 (u2 (u2 (u2 (u2 (u2 (u2 (u2 (u2 R 85 40 true) 85 41 true) 85 42 true) 85 43 true) 85 44 true) 85 46 true) 85 49 true) 85 50 true) 85 51 true) 85 54 true)) := by
  rw [Run_go [262] 43]
  rfl

set_option maxRecDepth 100000 in
theorem i167_262 {d : Nat} {f a : Nat → Nat → Int32} {g b : Nat → Nat → Int64} {C S L : Nat} {R : Nat → Nat → Bool} : Run true (d + 1) 167 262 [some (.ref 85)] [] (f, g, a, b, C, S, 115, L, R) =
    Run true (d + 1) 167 342 [some (.ref 85)] [] (f, g, (uo (uo (uo (uo (uo (uo (uo (uo (uo (uo a 115 0) 116 0) 117 0) 118 0) 119 0) 120 0) 121 0) 122 0) 123 0) 124 0), (uo (uo (uo (uo (uo (uo (uo (uo (uo (uo b 115 0) 116 0) 117 0) 118 0) 119 0) 120 0) 121 0) 122 0) 123 0) 124 0), ((((((((((C + 1) + 1) + 1) + 1) + 1) + 1) + 1) + 1) + 1) + 1), ((((((((((S + 60) + 60) + 205) + 4) + 10) + 10) + 10) + 60) + 60) + 60), 125, L, (u2 (u2 (u2 (u2 (u2 (u2 (u2 (u2 (u2 (u2 R 85 55 true) 85 56 true) 85 57 true) 85 58 true) 85 59 true) 85 60 true) 85 61 true) 85 64 true) 85 65 true) 85 66 true)) := by
  rw [Run_go [342] 40]
  rfl

set_option maxRecDepth 100000 in
theorem i167_342 {d : Nat} {f a : Nat → Nat → Int32} {g b : Nat → Nat → Int64} {C S L : Nat} {R : Nat → Nat → Bool} : Run true (d + 1) 167 342 [some (.ref 85)] [] (f, g, a, b, C, S, 125, L, R) =
    Run true (d + 1) 167 423 [some (.ref 85)] [] (f, g, (uo (uo (uo (uo (uo (uo (uo (uo (uo (uo a 125 0) 126 0) 127 0) 128 0) 129 0) 130 0) 131 0) 132 0) 133 0) 134 0), (uo (uo (uo (uo (uo (uo (uo (uo (uo (uo b 125 0) 126 0) 127 0) 128 0) 129 0) 130 0) 131 0) 132 0) 133 0) 134 0), ((((((((((C + 1) + 1) + 1) + 1) + 1) + 1) + 1) + 1) + 1) + 1), ((((((((((S + 300) + 60) + 100) + 100) + 100) + 100) + 100) + 100) + 12) + 12), 135, L, (u2 (u2 (u2 (u2 (u2 (u2 (u2 (u2 (u2 (u2 R 85 67 true) 85 68 true) 85 69 true) 85 70 true) 85 71 true) 85 72 true) 85 73 true) 85 74 true) 85 76 true) 85 77 true)) := by
  rw [Run_go [423] 40]
  rfl

set_option maxRecDepth 100000 in
theorem i167_423 {d : Nat} {f a : Nat → Nat → Int32} {g b : Nat → Nat → Int64} {C S L : Nat} {R : Nat → Nat → Bool} : Run true (d + 1) 167 423 [some (.ref 85)] [] (f, g, a, b, C, S, 135, L, R) =
    Run true (d + 1) 167 503 [some (.ref 85)] [] (f, g, (uo (uo (uo (uo (uo (uo (uo (uo (uo (uo a 135 0) 136 0) 137 0) 138 0) 139 0) 140 0) 141 0) 142 0) 143 0) 144 0), (uo (uo (uo (uo (uo (uo (uo (uo (uo (uo b 135 0) 136 0) 137 0) 138 0) 139 0) 140 0) 141 0) 142 0) 143 0) 144 0), ((((((((((C + 1) + 1) + 1) + 1) + 1) + 1) + 1) + 1) + 1) + 1), ((((((((((S + 12) + 12) + 12) + 12) + 12) + 60) + 60) + 60) + 60) + 60), 145, L, (u2 (u2 (u2 (u2 (u2 (u2 (u2 (u2 (u2 (u2 R 85 78 true) 85 79 true) 85 80 true) 85 81 true) 85 82 true) 85 86 true) 85 87 true) 85 88 true) 85 89 true) 85 90 true)) := by
  rw [Run_go [503] 40]
  rfl

set_option maxRecDepth 100000 in
theorem i167_503 {d : Nat} {f a : Nat → Nat → Int32} {g b : Nat → Nat → Int64} {C S L : Nat} {R : Nat → Nat → Bool} : Run true (d + 1) 167 503 [some (.ref 85)] [] (f, g, a, b, C, S, 145, L, R) =
    some (.inl (none, (f, g, a, b, C, S, 145, L, R))) := by
  rw [Run_go [] 1]
  rfl
