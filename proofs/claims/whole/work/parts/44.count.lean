/-! THE PURE PROOFS: packet's trips, what is counted -/
theorem Om1 : obl (nI 0 ≤ (-1 : Int32)) = false := obl_f (by decide +kernel)
theorem rem5 {p k : Nat} (hp : p < 20) (hk : k < 5) : nI (p * 5 + k) - nI (p * 5 + k) / nI 5 * nI 5 = nI k := by
  rw [nI_quo (by omega) (by decide), nI_mul, nI_sub (by omega)]
  congr 1
  omega
theorem c207_lp {d n : Nat} {ρ : PS} {a : Int32} (hn : n < 20) (e : FI ρ 85 30 = nI n) : Run false (d + 1) 207 38 [some (.ref 85), some (.int a), some (.int (nI 0))] [] ρ = some (.inl (some (.int (nI n)), wFI (filA 104 (41 * n) (nI 1) ρ 41) 85 30 (nI (n + 1)))) := by
  refine (lpU (f := fun j => Run false (d + 1) 207 38 [some (.ref 85), some (.int a), some (.int (nI j))] [] (filA 104 (41 * n) (nI 1) ρ j)) (n := 41) (fun j hj => ?_) 0 (Nat.zero_le _)).trans ?_
  · show Run false (d + 1) 207 38 _ [] (filA 104 (41 * n) (nI 1) ρ j) = Run false (d + 1) 207 38 _ [] (wAI (filA 104 (41 * n) (nI 1) ρ j) 104 (41 * n + j) (nI 1))
    rw [s207_38, oltF (by omega) (by decide), cond_false, filA_f, e, nI_mul, nI_add, inbT (by omega) (by decide), cond_true, nI_clamp (by omega), nI_add]
  · show Run false (d + 1) 207 38 _ [] (filA 104 (41 * n) (nI 1) ρ 41) = _
    rw [s207_38, oltT (by decide) (by decide), cond_true, filA_f, e, nI_add, nI_s1]
/-- how many of the first n are unset -/
noncomputable def lftN (f : Nat → Int32) : Nat → Nat
  | 0 => 0
  | n + 1 => lftN f n + (bif obl (f n = nI 0) then 1 else 0)
theorem c267_8 {d n : Nat} {ρ : PS} {a : Int32} (hn : n ≤ 100) (e : FI ρ 85 63 = nI n) : Run false (d + 1) 267 118 [some (.ref 85), some (.int a), some (.int (nI 0)), some (.int (nI 0))] [] ρ = some (.inl (some (.int (nI (cntF (AI ρ 132) n))), ρ)) := by
  refine (lpU (f := fun j => Run false (d + 1) 267 118 [some (.ref 85), some (.int a), some (.int (nI (cntF (AI ρ 132) j))), some (.int (nI j))] [] ρ) (n := n) (fun j hj => ?_) 0 (Nat.zero_le _)).trans ?_
  · show _ = Run false (d + 1) 267 118 [some (.ref 85), some (.int a), some (.int (nI (cntF (AI ρ 132) j + (bif obl (AI ρ 132 j = nI 0) then 0 else 1)))), some (.int (nI (j + 1)))] [] ρ
    rw [s267_118, e, oleF hj (by omega), cond_false, inbT (by omega) (by decide), cond_true, nI_clamp (by omega), nI_add, nI_add, nI_add]
    cases obl (AI ρ 132 j = nI 0) <;> rfl
  · show Run false (d + 1) 267 118 _ [] ρ = _
    rw [s267_118, e, oleT (Nat.le_refl _) (by omega), cond_true]
theorem c267_9 {d n : Nat} {ρ : PS} {a : Int32} (hn : n ≤ 12) (e : FI ρ 85 75 = nI n) : Run false (d + 1) 267 153 [some (.ref 85), some (.int a), some (.int (nI 0)), some (.int (nI 0))] [] ρ = some (.inl (some (.int (nI (lftN (AI ρ 139) n))), ρ)) := by
  refine (lpU (f := fun j => Run false (d + 1) 267 153 [some (.ref 85), some (.int a), some (.int (nI (lftN (AI ρ 139) j))), some (.int (nI j))] [] ρ) (n := n) (fun j hj => ?_) 0 (Nat.zero_le _)).trans ?_
  · show _ = Run false (d + 1) 267 153 [some (.ref 85), some (.int a), some (.int (nI (lftN (AI ρ 139) j + (bif obl (AI ρ 139 j = nI 0) then 1 else 0)))), some (.int (nI (j + 1)))] [] ρ
    rw [s267_153, e, oleF hj (by omega), cond_false, inbT (by omega) (by decide), cond_true, nI_clamp (by omega), nI_add, nI_add, nI_add]
    cases obl (AI ρ 139 j = nI 0) <;> rfl
  · show Run false (d + 1) 267 153 _ [] ρ = _
    rw [s267_153, e, oleT (Nat.le_refl _) (by omega), cond_true]
/-- unsold: the class's place of the buyer is none -/
def unsC (σ : PS) (n : Nat) : Prop := ∀ i, i < n → obl (AI σ 75 i = (-1 : Int32)) = obl (AI σ 139 i = nI 0)
theorem uns_I {σ : PS} (h : IF_ σ) : ∃ n, n ≤ 12 ∧ FI σ 85 75 = nI n ∧ FI σ 71 0 = nI n ∧ unsC σ n := by
  obtain ⟨n, h1, h2, h3, h4, -⟩ := h
  refine ⟨n, h1, h2, h3, fun i hi => ?_⟩
  obtain ⟨-, -, -, -, -, -, q⟩ := h4 i hi
  rcases q with ⟨a, b⟩ | ⟨a, b, ⟨c, hc, e⟩, -⟩
  · rw [a, b, obl_t rfl, obl_t rfl]
  · rw [a, b, e, obl_f (nI_m1n (by omega)), obl_f nI_10]
theorem c115 {d n : Nat} {σ : PS} (hd : 1 ≤ d) (hn : n ≤ 12) (e : FI σ 71 0 = nI n) (h : unsC σ n) : Run false d 115 0 [some (.ref 71), none, none] [] σ = some (.inl (some (.int (nI (lftN (AI σ 139) n))), σ)) := by
  obtain ⟨d, rfl⟩ := dS hd
  rw [s115_0]
  refine (lpU (f := fun j => Run false (d + 1) 115 4 [some (.ref 71), some (.int (nI (lftN (AI σ 139) j))), some (.int (nI j))] [] σ) (n := n) (fun j hj => ?_) 0 (Nat.zero_le _)).trans ?_
  · show _ = Run false (d + 1) 115 4 [some (.ref 71), some (.int (nI (lftN (AI σ 139) j + (bif obl (AI σ 139 j = nI 0) then 1 else 0)))), some (.int (nI (j + 1)))] [] σ
    rw [s115_4, e, oleF hj (by omega), cond_false, inbT (by omega) (by decide), cond_true, nI_clamp (by omega), nI_add, nI_add, h j hj]
    cases obl (AI σ 139 j = nI 0) <;> rfl
  · show Run false (d + 1) 115 4 _ [] σ = _
    rw [s115_4, e, oleT (Nat.le_refl _) (by omega), cond_true]
theorem t41_0 : tswF 1 165 0 12 #[67, 72, 80, 85, 93, 101, 109, 117, 125, 133, 141, 149, 157] (nI 0) = 68 := by decide +kernel
theorem t267_0 : tswF 8 193 0 12 #[68, 73, 78, 83, 88, 93, 98, 103, 108, 143, 178, 183, 188] (nI 0) = 76 := by decide +kernel
theorem t41_1 : tswF 1 165 0 12 #[67, 72, 80, 85, 93, 101, 109, 117, 125, 133, 141, 149, 157] (nI 1) = 73 := by decide +kernel
theorem t267_1 : tswF 8 193 0 12 #[68, 73, 78, 83, 88, 93, 98, 103, 108, 143, 178, 183, 188] (nI 1) = 81 := by decide +kernel
theorem t41_2 : tswF 1 165 0 12 #[67, 72, 80, 85, 93, 101, 109, 117, 125, 133, 141, 149, 157] (nI 2) = 81 := by decide +kernel
theorem t267_2 : tswF 8 193 0 12 #[68, 73, 78, 83, 88, 93, 98, 103, 108, 143, 178, 183, 188] (nI 2) = 86 := by decide +kernel
theorem t41_3 : tswF 1 165 0 12 #[67, 72, 80, 85, 93, 101, 109, 117, 125, 133, 141, 149, 157] (nI 3) = 86 := by decide +kernel
theorem t267_3 : tswF 8 193 0 12 #[68, 73, 78, 83, 88, 93, 98, 103, 108, 143, 178, 183, 188] (nI 3) = 91 := by decide +kernel
theorem t41_4 : tswF 1 165 0 12 #[67, 72, 80, 85, 93, 101, 109, 117, 125, 133, 141, 149, 157] (nI 4) = 94 := by decide +kernel
theorem t267_4 : tswF 8 193 0 12 #[68, 73, 78, 83, 88, 93, 98, 103, 108, 143, 178, 183, 188] (nI 4) = 96 := by decide +kernel
theorem t41_5 : tswF 1 165 0 12 #[67, 72, 80, 85, 93, 101, 109, 117, 125, 133, 141, 149, 157] (nI 5) = 102 := by decide +kernel
theorem t267_5 : tswF 8 193 0 12 #[68, 73, 78, 83, 88, 93, 98, 103, 108, 143, 178, 183, 188] (nI 5) = 101 := by decide +kernel
theorem t41_6 : tswF 1 165 0 12 #[67, 72, 80, 85, 93, 101, 109, 117, 125, 133, 141, 149, 157] (nI 6) = 110 := by decide +kernel
theorem t267_6 : tswF 8 193 0 12 #[68, 73, 78, 83, 88, 93, 98, 103, 108, 143, 178, 183, 188] (nI 6) = 106 := by decide +kernel
theorem t41_7 : tswF 1 165 0 12 #[67, 72, 80, 85, 93, 101, 109, 117, 125, 133, 141, 149, 157] (nI 7) = 118 := by decide +kernel
theorem t267_7 : tswF 8 193 0 12 #[68, 73, 78, 83, 88, 93, 98, 103, 108, 143, 178, 183, 188] (nI 7) = 111 := by decide +kernel
theorem t41_8 : tswF 1 165 0 12 #[67, 72, 80, 85, 93, 101, 109, 117, 125, 133, 141, 149, 157] (nI 8) = 126 := by decide +kernel
theorem t267_8 : tswF 8 193 0 12 #[68, 73, 78, 83, 88, 93, 98, 103, 108, 143, 178, 183, 188] (nI 8) = 116 := by decide +kernel
theorem t41_9 : tswF 1 165 0 12 #[67, 72, 80, 85, 93, 101, 109, 117, 125, 133, 141, 149, 157] (nI 9) = 134 := by decide +kernel
theorem t267_9 : tswF 8 193 0 12 #[68, 73, 78, 83, 88, 93, 98, 103, 108, 143, 178, 183, 188] (nI 9) = 151 := by decide +kernel
theorem t41_10 : tswF 1 165 0 12 #[67, 72, 80, 85, 93, 101, 109, 117, 125, 133, 141, 149, 157] (nI 10) = 142 := by decide +kernel
theorem t267_10 : tswF 8 193 0 12 #[68, 73, 78, 83, 88, 93, 98, 103, 108, 143, 178, 183, 188] (nI 10) = 186 := by decide +kernel
theorem t41_11 : tswF 1 165 0 12 #[67, 72, 80, 85, 93, 101, 109, 117, 125, 133, 141, 149, 157] (nI 11) = 150 := by decide +kernel
theorem t267_11 : tswF 8 193 0 12 #[68, 73, 78, 83, 88, 93, 98, 103, 108, 143, 178, 183, 188] (nI 11) = 191 := by decide +kernel
theorem t41_12 : tswF 1 165 0 12 #[67, 72, 80, 85, 93, 101, 109, 117, 125, 133, 141, 149, 157] (nI 12) = 158 := by decide +kernel
theorem t267_12 : tswF 8 193 0 12 #[68, 73, 78, 83, 88, 93, 98, 103, 108, 143, 178, 183, 188] (nI 12) = 196 := by decide +kernel
theorem ir_out {n : Nat} {a : Int32} (h : ¬ IR 0 n a) (hn : n < 2 ^ 31) : a.toInt < 0 ∨ (n : Int) < a.toInt := by
  by_cases q : a.toInt < 0
  · exact Or.inl q
  · refine Or.inr (Int.not_le.mp fun w => h ?_)
    obtain ⟨k, hk, rfl⟩ := i_of (Int.not_lt.mp q)
    rw [nI_toInt hk] at w
    exact ⟨k, Nat.zero_le _, by omega, rfl⟩
theorem t41_n {a : Int32} (h : ¬ IR 0 12 a) : tswF 1 165 0 12 #[67, 72, 80, 85, 93, 101, 109, 117, 125, 133, 141, 149, 157] a = 166 := if_pos (ir_out h (by decide))
theorem t267_n {a : Int32} (h : ¬ IR 0 12 a) : tswF 8 193 0 12 #[68, 73, 78, 83, 88, 93, 98, 103, 108, 143, 178, 183, 188] a = 201 := if_pos (ir_out h (by decide))
