/-! THE LAW: what the constructors leave (printed by wip/whole/genini.py) -/
def z32 : Nat → Nat → Int32 := fun _ _ => 0
def z64 : Nat → Nat → Int64 := fun _ _ => 0
def a0 (xs : Nat → Int32) : Nat → Nat → Int32 := fun o j => bif Nat.beq o 999 then xs j else 0
def fl23 (a : Nat → Nat → Int32) (n : Nat) : Nat → Nat → Int32 := fun o j => bif Nat.beq o 23 then (if j < n then nI 1 else a o j) else a o j
def a1 (xs : Nat → Int32) : Nat → Nat → Int32 := fl23 (a0 xs) 820
def f1_c : Nat → Nat → Int32 := u2 z32 12 1 (-1 : Int32)
def f3_c : Nat → Nat → Int32 := u2 (u2 f1_c 85 11 (-1 : Int32)) 85 45 (-1 : Int32)
def r0_c : Nat → Nat → Bool := uo (fun _ _ => false) 0 false
def r1_c : Nat → Nat → Bool := (u2 (u2 (u2 (u2 (u2 (u2 (u2 (uo (u2 (u2 (u2 (u2 (u2 (u2 (u2 (uo (u2 (u2 (u2 (u2 (u2 (u2 (u2 (u2 (u2 (u2 (u2 (uo (u2 (u2 (u2 (u2 (u2 (u2 (u2 (u2 (u2 (u2 (u2 (u2 (uo (u2 (u2 (u2 (u2 (u2 (uo (u2 (u2 (u2 (u2 (u2 (u2 (u2 (uo (u2 (u2 (u2 (u2 (u2 (uo (u2 (u2 (u2 (u2 (u2 (uo (u2 (u2 (u2 (u2 (u2 (u2 (u2 (u2 (u2 (uo (u2 (u2 (u2 (u2 (u2 (u2 (uo (u2 (u2 (u2 (u2 (u2 (u2 (u2 (u2 (u2 (u2 (u2 (uo r0_c 1 false) 1 3 true) 1 4 true) 1 5 true) 1 6 true) 1 7 true) 1 8 true) 1 9 true) 1 10 true) 1 11 true) 1 12 true) 0 2 true) 12 false) 12 11 true) 12 7 true) 12 8 true) 12 9 true) 12 10 true) 0 3 true) 17 false) 17 1 true) 17 2 true) 17 3 true) 17 4 true) 17 5 true) 17 6 true) 17 7 true) 17 8 true) 0 4 true) 26 false) 26 1 true) 26 2 true) 26 3 true) 26 4 true) 0 5 true) 31 false) 31 2 true) 31 3 true) 31 4 true) 31 5 true) 0 6 true) 36 false) 36 0 true) 36 1 true) 36 2 true) 36 3 true) 36 4 true) 36 5 true) 0 7 true) 43 false) 43 3 true) 43 4 true) 43 5 true) 43 6 true) 0 8 true) 48 false) 48 2 true) 48 3 true) 48 12 true) 48 4 true) 48 5 true) 48 6 true) 48 7 true) 48 8 true) 48 9 true) 48 10 true) 48 11 true) 0 9 true) 60 false) 60 3 true) 60 4 true) 60 6 true) 60 7 true) 60 5 true) 60 8 true) 60 9 true) 60 10 true) 60 11 true) 60 12 true) 0 10 true) 71 false) 71 4 true) 71 5 true) 71 6 true) 71 7 true) 71 8 true) 71 9 true) 0 11 true) 78 false) 78 3 true) 78 4 true) 78 5 true) 78 6 true) 0 12 true) 0 13 true) 0 14 true)
def r3_c : Nat → Nat → Bool := (u2 (u2 (u2 (u2 (u2 (u2 (u2 (u2 (u2 (u2 (u2 (u2 (u2 (u2 (u2 (u2 (u2 (u2 (u2 (u2 (u2 (u2 (u2 (u2 (u2 (u2 (u2 (u2 (u2 (u2 (u2 (u2 (u2 (u2 (u2 (u2 (u2 (u2 (u2 (u2 (u2 (u2 (u2 (u2 (u2 (u2 (u2 (u2 (u2 (u2 (u2 (u2 (u2 (u2 (u2 (u2 (u2 (u2 (u2 (uo r1_c 85 false) 85 12 true) 85 13 true) 85 14 true) 85 15 true) 85 16 true) 85 17 true) 85 18 true) 85 19 true) 85 20 true) 85 21 true) 85 28 true) 85 31 true) 85 32 true) 85 33 true) 85 34 true) 85 35 true) 85 36 true) 85 37 true) 85 38 true) 85 40 true) 85 41 true) 85 42 true) 85 43 true) 85 44 true) 85 46 true) 85 49 true) 85 50 true) 85 51 true) 85 54 true) 85 55 true) 85 56 true) 85 57 true) 85 58 true) 85 59 true) 85 60 true) 85 61 true) 85 64 true) 85 65 true) 85 66 true) 85 67 true) 85 68 true) 85 69 true) 85 70 true) 85 71 true) 85 72 true) 85 73 true) 85 74 true) 85 76 true) 85 77 true) 85 78 true) 85 79 true) 85 80 true) 85 81 true) 85 82 true) 85 86 true) 85 87 true) 85 88 true) 85 89 true) 85 90 true)
theorem uo_z32 {n : Nat} : uo z32 n 0 = z32 := by
  funext a b
  unfold uo z32
  cases Nat.beq a n <;> rfl
theorem uo_z64 {n : Nat} : uo z64 n 0 = z64 := by
  funext a b
  unfold uo z64
  cases Nat.beq a n <;> rfl
theorem uo_a0 {xs : Nat → Int32} {n : Nat} (h : Nat.beq n 999 = false) : uo (a0 xs) n 0 = a0 xs := by
  funext p q
  unfold uo
  cases e : Nat.beq p n with
  | false => rfl
  | true =>
    have := Nat.eq_of_beq_eq_true e
    subst this
    unfold a0
    rw [h]
    rfl
theorem uo_a1 {xs : Nat → Int32} {n : Nat} (h : Nat.beq n 999 = false) (h2 : Nat.beq n 23 = false) : uo (fl23 (a0 xs) 820) n 0 = fl23 (a0 xs) 820 := by
  funext p q
  unfold uo
  cases e : Nat.beq p n with
  | false => rfl
  | true =>
    have := Nat.eq_of_beq_eq_true e
    subst this
    unfold fl23 a0
    rw [h, h2]
    rfl
theorem u2_z32 {o k : Nat} : u2 z32 o k (nI 0) = z32 := by
  funext a b
  unfold u2 z32
  cases (Nat.beq a o && Nat.beq b k) <;> rfl
theorem uo_f1 {n : Nat} (h : Nat.beq 12 n = false) : uo f1_c n 0 = f1_c := by
  funext p q
  unfold uo
  cases e : Nat.beq p n with
  | false => rfl
  | true =>
    have := Nat.eq_of_beq_eq_true e
    subst this
    unfold f1_c u2 z32
    have h2 : Nat.beq p 12 = false := by
      cases e2 : Nat.beq p 12 with
      | false => rfl
      | true =>
        have := Nat.eq_of_beq_eq_true e2
        subst this
        exact h
    rw [h2]
    rfl
theorem st_eq {f f' a a' : Nat → Nat → Int32} {g g' b b' : Nat → Nat → Int64} {C C' S S' N L : Nat} {R R' : Nat → Nat → Bool} (h1 : f = f') (h2 : g = g') (h3 : a = a') (h4 : b = b') (h5 : C = C') (h6 : S = S') (h7 : R = R') :
    (some (Sum.inl (none, (f, g, a, b, C, S, N, L, R))) : Option PO) = some (.inl (none, (f', g', a', b', C', S', N, L, R'))) := by
  subst h1 h2 h3 h4 h5 h6 h7
  rfl
/-- the one loop: every packet goes one trip -/
theorem i121_57 {d : Nat} {i : Int32} {f a : Nat → Nat → Int32} {g b : Nat → Nat → Int64} {C S L : Nat} {R : Nat → Nat → Bool} : Run true (d + 1) 121 57 [some (.ref 17), some (.int i)] [] (f, g, a, b, C, S, 24, L, (u2 R 17 6 true)) =
    (bif obl ((nI 820) ≤ i) then Run true (d + 1) 121 79 [some (.ref 17), some (.int i)] [] (f, g, a, b, C, S, 24, L, (u2 R 17 6 true)) else (bif inb i 820 then Run true (d + 1) 121 57 [some (.ref 17), some (.int (i + (nI 1)))] [] (f, g, (ua a 23 i.toNatClampNeg (nI 1)), b, C, S, 24, L, (u2 R 17 6 true)) else none)) := by
  rw [Run_go [57, 79] 13]
  rfl
theorem fl23_0 {a : Nat → Nat → Int32} : fl23 a 0 = a := by
  funext p q
  unfold fl23
  rw [if_neg (Nat.not_lt_zero q)]
  cases Nat.beq p 23 <;> rfl
theorem fl23_s {a : Nat → Nat → Int32} {n : Nat} : ua (fl23 a n) 23 n (nI 1) = fl23 a (n + 1) := by
  funext p q
  unfold ua fl23
  cases Nat.beq p 23 with
  | false => rfl
  | true =>
    simp only [cond_true]
    by_cases h : q = n
    · rw [if_pos h, if_pos (by omega)]
    · rw [if_neg h]
      by_cases h2 : q < n
      · rw [if_pos h2, if_pos (by omega)]
      · rw [if_neg h2, if_neg (by omega)]
theorem lp121 {d : Nat} {f a : Nat → Nat → Int32} {g b : Nat → Nat → Int64} {C S L : Nat} {R : Nat → Nat → Bool} : Run true (d + 1) 121 57 [some (.ref 17), some (.int (nI 0))] [] (f, g, a, b, C, S, 24, L, (u2 R 17 6 true)) = Run true (d + 1) 121 79 [some (.ref 17), some (.int (nI 820))] [] (f, g, fl23 a 820, b, C, S, 24, L, (u2 R 17 6 true)) := by
  have h := lpU (f := fun j => Run true (d + 1) 121 57 [some (.ref 17), some (.int (nI j))] [] (f, g, fl23 a j, b, C, S, 24, L, (u2 R 17 6 true))) (n := 820) (fun j hj => by
    try dsimp only
    rw [i121_57, oleF hj (by decide), cond_false, inbT hj (by decide), cond_true, nI_clamp (by omega), fl23_s, nI_add]) 0 (Nat.zero_le _)
  try dsimp only at h
  rw [fl23_0] at h
  rw [h, i121_57, oleT (Nat.le_refl 820) (by decide), cond_true]
theorem ini_cls {d L : Nat} {xs : Nat → Int32} : Run true (d + 3) 0 0 [some (.ref 0)] [] (z32, z64, a0 xs, z64, 1, 15, 1, L, r0_c) = some (.inl (none, (f1_c, z64, a1 xs, z64, 85, 13728, 85, L, r1_c))) := by
  rw [i0_0, i91_0, i91_89, aft_n, i0_22, i130_0, aft_n, i0_37, i121_0, lp121, i121_79, aft_n, i0_48, i76_0, aft_n, i0_59, i161_0, aft_n, i0_70, i81_0, aft_n, i0_81, i78_0, aft_n, i0_92, i70_0, i70_81, aft_n, i0_103, i104_0, i104_85, aft_n, i0_114, i113_0, aft_n, i0_125, i154_0, aft_n, i0_136]
  refine st_eq ?_ ?_ ?_ ?_ rfl rfl rfl
  · simp (disch := decide) only [u2_z32, uo_z32]
    show _ = f1_c
    simp (disch := decide) only [show u2 z32 12 1 (-1 : Int32) = f1_c from rfl, uo_f1]
  · simp only [uo_z64]
  · simp (disch := decide) only [uo_a0, uo_a1]
    all_goals rfl
  · simp only [uo_z64]
theorem ini_mdl {d L : Nat} {xs : Nat → Int32} : Run true (d + 2) 167 0 [some (.ref 85)] [] (f1_c, z64, a1 xs, z64, 86, 13821, 86, L, uo r1_c 85 false) = some (.inl (none, (f3_c, z64, a1 xs, z64, 145, 30611, 145, L, r3_c))) := by
  unfold a1
  rw [i167_0, i167_88, i167_174, i167_262, i167_342, i167_423, i167_503]
  refine st_eq ?_ ?_ ?_ ?_ rfl rfl rfl
  · rfl
  · simp only [uo_z64]
  · simp (disch := decide) only [uo_a1]
  · simp only [uo_z64]
theorem r3_all : (List.range 146).all (fun o => (List.range (nfT (objc o))).all (fun k => !(Nat.beq (fkT (objc o) k) 2) || r3_c o k)) = true := by decide +kernel
