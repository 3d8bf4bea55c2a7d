/-! THE PURE PROOFS: spans on both sides -/
theorem mxN {a b : Nat} (ha : a < 2 ^ 31) (hb : b < 2 ^ 31) : (if nI 0 < (nI a - nI b) then (nI a - nI b) else nI 0) = nI (a - b) := by
  by_cases h : b ≤ a
  · rw [nI_sub h]
    by_cases q : 0 < a - b
    · rw [if_pos (nI_lt q (by omega))]
    · rw [if_neg (nI_nlt (by omega) (by omega)), show a - b = 0 by omega]
  · rw [if_neg, show a - b = 0 by omega]
    intro w
    have w1 := Int32.lt_iff_toInt_lt.mp w
    rw [Int32.toInt_sub, nI_toInt ha, nI_toInt hb, nI_toInt (by decide)] at w1
    have e : ((a : Int) - (b : Int)).bmod (2 ^ 32) = (a : Int) - (b : Int) := by apply Int.bmod_eq_of_le <;> omega
    rw [e] at w1
    omega
noncomputable def frN (σ : PS) (m s y nA nL : Nat) : Nat := aoN σ s y nL * (spN σ 144 m s y nA - (rootN (4 * spN σ 144 m s y nA) + 1)) / spN σ 143 m s y nA
noncomputable def toN (σ : PS) (m s y nA nL : Nat) : Nat := aoN σ s y nL * (spN σ 144 m s y nA + (rootN (4 * spN σ 144 m s y nA) + 1)) / spN σ 143 m s y nA
section SQ
variable {d m s y nA nL : Nat} {σ : PS}
theorem sp_le (h : IM σ) (hn : FI σ 85 85 = nI nA) (hn2 : nA ≤ 60) : spN σ 144 m s y nA ≤ spN σ 143 m s y nA := by
  obtain ⟨n', h1, h2, h3, h4⟩ := h
  have : nA = n' := (nI_eq (by omega) (by omega)).mp (hn.symm.trans h2)
  subst this
  have key : ∀ j, j ≤ nA → ∃ v w, w ≤ v ∧ v ≤ 1000 * j ∧ spV σ 143 m s y j = nI v ∧ spV σ 144 m s y j = nI w := by
    intro j
    induction j with
    | zero => intro _; exact ⟨0, 0, by decide, by decide, rfl, rfl⟩
    | succ j ih =>
      intro hj
      obtain ⟨v, w, hw, hv, ev, ew⟩ := ih (by omega)
      obtain ⟨m', s', y', hh, x, c1, c2, c3, c4, c5, c6, e1, e2, e3, e4, e5, -⟩ := h4 j (by omega)
      unfold spV
      rw [ev, ew, e4, e5]
      cases obl (AI σ 140 j = nI m)
      · exact ⟨v, w, hw, by omega, rfl, rfl⟩
      · cases obl (AI σ 141 j = nI s)
        · exact ⟨v, w, hw, by omega, rfl, rfl⟩
        · cases obl (AI σ 142 j = nI y)
          · exact ⟨v, w, hw, by omega, rfl, rfl⟩
          · exact ⟨v + hh, w + x, by omega, by omega, by rw [cond_true, cond_true, cond_true, nI_add], by rw [cond_true, cond_true, cond_true, nI_add]⟩
  obtain ⟨v, w, hw, hv, ev, ew⟩ := key nA (Nat.le_refl _)
  unfold spN
  rw [ev, ew, nI_clamp (by omega), nI_clamp (by omega)]
  exact hw
theorem fr_le {A H n r : Nat} (h : H ≤ n) (hA : A ≤ 1200000) : A * (H - r) / n ≤ 1200000 := by
  rcases Nat.eq_zero_or_pos n with q | q
  · rw [q, Nat.div_zero]; omega
  · have h1 : A * (H - r) ≤ 1200000 * n := Nat.mul_le_mul hA (by omega)
    exact Nat.div_le_of_le_mul (by rw [Nat.mul_comm n]; exact h1)
theorem to_le {A H n r : Nat} (h : H ≤ n) (hA : A ≤ 1200000) (hr : r ≤ 490) : A * (H + r) / n ≤ 1200000 * 491 := by
  rcases Nat.eq_zero_or_pos n with q | q
  · rw [q, Nat.div_zero]; omega
  · have h1 : A * (H + r) ≤ 1200000 * (491 * n) := Nat.mul_le_mul hA (by omega)
    exact Nat.div_le_of_le_mul (by rw [Nat.mul_comm n, Nat.mul_assoc]; exact h1)
theorem c158 {A : Nat} (hd : 2 ≤ d) (h : IM σ) (hn : FI σ 78 0 = nI nA) (hn85 : FI σ 85 85 = nI nA) (hn2 : nA ≤ 60) (hs : s < 5) (hm : m < 10) (hA : A ≤ 1200000) : ∃ τ, Off σ τ ∧ AI τ = AI σ ∧ Run false d 158 0 [some (.ref 78), some (.int (nI (m * 5 + s))), some (.int (nI y)), some (.int (nI A))] [] σ = some (.inl (some (.int (if spN σ 143 m s y nA = 0 then -1 else nI (A * (spN σ 144 m s y nA - (rootN (4 * spN σ 144 m s y nA) + 1)) / spN σ 143 m s y nA))), τ)) := by
  obtain ⟨d, rfl⟩ := dS (show 1 ≤ d by omega)
  obtain ⟨τ, o1, oA, g1, g2, r1⟩ := c156 (d := d) (y := y) (by omega) h hn hn2 hs hm
  obtain ⟨e1, l1⟩ := sp_e (m := m) (s := s) (y := y) h hn85 hn2 (Or.inl rfl)
  obtain ⟨e2, l2⟩ := sp_e (m := m) (s := s) (y := y) h hn85 hn2 (Or.inr rfl)
  rw [e1] at g1
  rw [e2] at g2
  have r3 := root_le (n := 4 * spN σ 144 m s y nA) (by omega)
  refine ⟨τ, o1, oA, ?_⟩
  rw [s158_0, r1, aft_n, s158_6, g1]
  by_cases q : spN σ 143 m s y nA = 0
  · rw [if_pos q, oltF (show spN σ 143 m s y nA ≤ 0 by omega) (by decide)]; rfl
  · have b1 : A * (spN σ 144 m s y nA - (rootN (4 * spN σ 144 m s y nA) + 1)) ≤ 1200000 * 60000 := Nat.mul_le_mul hA (by omega)
    rw [if_neg q, oltT (show 0 < spN σ 143 m s y nA by omega) (by omega), cond_true, c157 (by omega) g2 l2, aft_v, s158_28, g1, g2, nI_l (show spN σ 143 m s y nA < 2 ^ 31 by omega), LLe (by omega) (by decide), Nbf q, cond_false, mxN (by omega) (by omega), nI_l (by omega), nI_l (by omega), lN_mul, lN_quo (by omega) (by omega) (by omega), lN_i]
theorem c159 {A : Nat} (hd : 2 ≤ d) (h : IM σ) (hn : FI σ 78 0 = nI nA) (hn85 : FI σ 85 85 = nI nA) (hn2 : nA ≤ 60) (hs : s < 5) (hm : m < 10) (hA : A ≤ 1200000) : ∃ τ, Off σ τ ∧ AI τ = AI σ ∧ Run false d 159 0 [some (.ref 78), some (.int (nI (m * 5 + s))), some (.int (nI y)), some (.int (nI A))] [] σ = some (.inl (some (.int (if spN σ 143 m s y nA = 0 then -1 else nI (A * (spN σ 144 m s y nA + (rootN (4 * spN σ 144 m s y nA) + 1)) / spN σ 143 m s y nA))), τ)) := by
  obtain ⟨d, rfl⟩ := dS (show 1 ≤ d by omega)
  obtain ⟨τ, o1, oA, g1, g2, r1⟩ := c156 (d := d) (y := y) (by omega) h hn hn2 hs hm
  obtain ⟨e1, l1⟩ := sp_e (m := m) (s := s) (y := y) h hn85 hn2 (Or.inl rfl)
  obtain ⟨e2, l2⟩ := sp_e (m := m) (s := s) (y := y) h hn85 hn2 (Or.inr rfl)
  rw [e1] at g1
  rw [e2] at g2
  have r3 := root_le (n := 4 * spN σ 144 m s y nA) (by omega)
  refine ⟨τ, o1, oA, ?_⟩
  rw [s159_0, r1, aft_n, s159_6, g1]
  by_cases q : spN σ 143 m s y nA = 0
  · rw [if_pos q, oltF (show spN σ 143 m s y nA ≤ 0 by omega) (by decide)]; rfl
  · have b1 : A * (spN σ 144 m s y nA + (rootN (4 * spN σ 144 m s y nA) + 1)) ≤ 1200000 * 60490 := Nat.mul_le_mul hA (by omega)
    rw [if_neg q, oltT (show 0 < spN σ 143 m s y nA by omega) (by omega), cond_true, c157 (by omega) g2 l2, aft_v, s159_27, g1, g2, nI_l (show spN σ 143 m s y nA < 2 ^ 31 by omega), LLe (by omega) (by decide), Nbf q, cond_false, nI_add, nI_l (by omega), nI_l (by omega), lN_mul, lN_quo (by omega) (by omega) (by omega), lN_i]
/-- the model's -/
theorem c261 (hd : 3 ≤ d) (h : IM σ) (hO : IO_ σ) (hL : FI σ 60 0 = nI nL) (hL2 : nL ≤ 60) (hn85 : FI σ 85 85 = nI nA) (hn2 : nA ≤ 60) (hs : s < 5) : Run false d 261 0 [some (.ref 85), some (.int (nI m)), some (.int (nI s)), some (.int (nI y)), none, none, none, none, none] [] σ = some (.inl (some (.int (if spN σ 143 m s y nA = 0 then nI 0 else nI 1)), if spN σ 143 m s y nA = 0 then σ else wFL (wFL σ 85 91 (lN (frN σ m s y nA nL))) 85 92 (lN (toN σ m s y nA nL)))) := by
  obtain ⟨d, rfl⟩ := dS (show 1 ≤ d by omega)
  obtain ⟨e1, l1⟩ := sp_e (m := m) (s := s) (y := y) h hn85 hn2 (Or.inl rfl)
  obtain ⟨e2, l2⟩ := sp_e (m := m) (s := s) (y := y) h hn85 hn2 (Or.inr rfl)
  have lA := (ao_e (y := y) hO hL hL2 hs (Nat.le_refl _)).2
  have r3 := root_le (n := 4 * spN σ 144 m s y nA) (by omega)
  obtain ⟨r1, r2⟩ := root_h (4 * spN σ 144 m s y nA)
  have p1 : Run false (d + 1) 261 9 [some (.ref 85), some (.int (nI m)), some (.int (nI s)), some (.int (nI y)), some (.int (spV σ 143 m s y 0)), some (.int (spV σ 144 m s y 0)), some (.int (nI 0)), none, none] [] σ = Run false (d + 1) 261 9 [some (.ref 85), some (.int (nI m)), some (.int (nI s)), some (.int (nI y)), some (.int (spV σ 143 m s y nA)), some (.int (spV σ 144 m s y nA)), some (.int (nI nA)), none, none] [] σ := by
    refine lpU (f := fun j => Run false (d + 1) 261 9 [some (.ref 85), some (.int (nI m)), some (.int (nI s)), some (.int (nI y)), some (.int (spV σ 143 m s y j)), some (.int (spV σ 144 m s y j)), some (.int (nI j)), none, none] [] σ) (n := nA) (fun j hj => ?_) 0 (Nat.zero_le _)
    rw [s261_9]
    simp (disch := omega) only [hn85, oleF, cond_false, inbT, cond_true, nI_clamp, nI_add, spV]
    cases obl (AI σ 140 j = nI m)
    · rfl
    · cases obl (AI σ 141 j = nI s)
      · rfl
      · cases obl (AI σ 142 j = nI y) <;> rfl
  rw [s261_0]
  refine p1.trans ?_
  rw [e1, e2, s261_9, hn85, oleT (Nat.le_refl _) (by omega), cond_true]
  by_cases q : spN σ 143 m s y nA = 0
  · rw [oeqT q, if_pos q, if_pos q, cond_true, is01_0]; rfl
  · rw [oeqF q (by omega) (by omega), cond_false, if_neg q, if_neg q]
    have sq : ∀ r, r ≤ 489 → (r + 1) * (r + 1) ≤ 490 * 490 := fun r h => Nat.mul_le_mul (by omega) (by omega)
    refine (lpU (f := fun j => Run false (d + 1) 261 94 [some (.ref 85), some (.int (nI m)), some (.int (nI s)), some (.int (nI y)), some (.int (nI (spN σ 143 m s y nA))), some (.int (nI (spN σ 144 m s y nA))), some (.int (nI j)), none, none] [] σ) (n := rootN (4 * spN σ 144 m s y nA)) (fun j hj => ?_) 0 (Nat.zero_le _)).trans ?_
    · have h1 : (j + 1) * (j + 1) ≤ rootN (4 * spN σ 144 m s y nA) * rootN (4 * spN σ 144 m s y nA) := Nat.mul_le_mul hj hj
      have h2 := sq j (by omega)
      rw [s261_94, nI_mul, nI_add, nI_mul, oltF (by omega) (by omega), cond_false]
    · have h2 := sq (rootN (4 * spN σ 144 m s y nA)) r3
      have b1 : aoN σ s y nL * (spN σ 144 m s y nA - (rootN (4 * spN σ 144 m s y nA) + 1)) ≤ 1200000 * 60000 := Nat.mul_le_mul lA (by omega)
      have b2 : aoN σ s y nL * (spN σ 144 m s y nA + (rootN (4 * spN σ 144 m s y nA) + 1)) ≤ 1200000 * 60490 := Nat.mul_le_mul lA (by omega)
      have eto : lN (aoN σ s y nL) * (nI (spN σ 144 m s y nA + (rootN (4 * spN σ 144 m s y nA) + 1))).toInt64 / lN (spN σ 143 m s y nA) = lN (toN σ m s y nA nL) := by
        rw [nI_l (by omega), lN_mul, lN_quo (by omega) (by omega) (by omega)]
        rfl
      rw [s261_94, nI_mul, nI_add, nI_mul, oltT (by omega) (by omega), cond_true, c260 (by omega) hO hL hL2 hs, aft_v, s261_125, nI_l (show spN σ 143 m s y nA < 2 ^ 31 by omega), LLe (by omega) (by decide), Nbf q, cond_false, cond_false, is01_1, cond_true, nI_add, eto]
      by_cases w : spN σ 144 m s y nA ≤ rootN (4 * spN σ 144 m s y nA) + 1
      · have efr : lN (aoN σ s y nL) * (nI 0).toInt64 / lN (spN σ 143 m s y nA) = lN (frN σ m s y nA nL) := by
          rw [nI_l (by decide), lN_mul, lN_quo (by omega) (by omega) (by omega)]
          unfold frN
          rw [show spN σ 144 m s y nA - (rootN (4 * spN σ 144 m s y nA) + 1) = 0 by omega]
        rw [oleT w (by omega), cond_true, efr]
      · have efr : lN (aoN σ s y nL) * (nI (spN σ 144 m s y nA) - nI (rootN (4 * spN σ 144 m s y nA) + 1)).toInt64 / lN (spN σ 143 m s y nA) = lN (frN σ m s y nA nL) := by
          rw [nI_sub (by omega), nI_l (by omega), lN_mul, lN_quo (by omega) (by omega) (by omega)]
          rfl
        rw [oleF (by omega) (by omega), cond_false, cond_false, cond_false, cond_true, efr]
end SQ
