/-! THE PURE PROOFS: worth -/
theorem LLt {a b : Nat} (ha : a < 2 ^ 63) (hb : b < 2 ^ 63) : obl (lN a < lN b) = !Nat.ble b a := by
  rw [← LLb hb ha]
  by_cases h : lN b ≤ lN a
  · rw [obl_t h, obl_f (Int64.not_lt.mpr h)]; rfl
  · rw [obl_f h, obl_t (Int64.not_le.mp h)]; rfl
theorem lN_sub' {a b : Nat} (h : b ≤ a) : lN a - lN b = lN (a - b) := lN_sub h
noncomputable def wiN (σ : PS) (m s y nA nL : Nat) : Nat := if spN σ 143 m s y nA = 0 then aoN σ s y nL else toN σ m s y nA nL - frN σ m s y nA nL
/-- the widest and whose it is -/
def wrP (f : Nat → Nat) : Nat → Nat × Nat
  | 0 => (f 0, 0)
  | j + 1 => bif Nat.ble (f j) (wrP f j).1 then wrP f j else (f j, j)
theorem wrP_1 {f : Nat → Nat} : wrP f 1 = (f 0, 0) := by
  show (bif Nat.ble (f 0) (f 0) then (f 0, 0) else (f 0, 0)) = (f 0, 0)
  cases Nat.ble (f 0) (f 0) <;> rfl
theorem wrP_le {f : Nat → Nat} {b : Nat} (h : ∀ s, s < 5 → f s ≤ b) : ∀ i, i ≤ 5 → (wrP f i).1 ≤ b := by
  intro i
  induction i with
  | zero => intro _; exact h 0 (by decide)
  | succ i ih =>
    intro hi
    unfold wrP
    cases Nat.ble (f i) (wrP f i).1
    · exact h _ (by omega)
    · exact ih (by omega)
section WO
variable {d m s y nA nL : Nat} {σ : PS}
theorem fr_to : frN σ m s y nA nL ≤ toN σ m s y nA nL := by
  unfold frN toN
  exact Nat.div_le_div_right (Nat.mul_le_mul_left _ (by omega))
theorem to_b (hI : Inv σ) (hn85 : FI σ 85 85 = nI nA) (hn2 : nA ≤ 60) (hL : FI σ 60 0 = nI nL) (hL2 : nL ≤ 60) (hs : s < 5) : toN σ m s y nA nL ≤ 1200000 * 491 := by
  have lA := (ao_e (y := y) hI.2.2.2.2.2.1 hL hL2 hs (Nat.le_refl _)).2
  have hle := sp_le (m := m) (s := s) (y := y) hI.2.2.2.2.2.2.2.1 hn85 hn2
  obtain ⟨e2, l2⟩ := sp_e (m := m) (s := s) (y := y) hI.2.2.2.2.2.2.2.1 hn85 hn2 (Or.inr rfl)
  have r3 := root_le (n := 4 * spN σ 144 m s y nA) (by omega)
  exact to_le hle lA (by omega)
theorem wi_le (hI : Inv σ) (hn85 : FI σ 85 85 = nI nA) (hn2 : nA ≤ 60) (hL : FI σ 60 0 = nI nL) (hL2 : nL ≤ 60) (hs : s < 5) : wiN σ m s y nA nL ≤ 1200000 * 491 := by
  have lA := (ao_e (y := y) hI.2.2.2.2.2.1 hL hL2 hs (Nat.le_refl _)).2
  have := to_b (m := m) (y := y) hI hn85 hn2 hL hL2 hs
  unfold wiN
  split <;> omega
theorem wi_off {τ : PS} (h : Off σ τ) : wiN τ m s y nA nL = wiN σ m s y nA nL := by
  unfold wiN
  rw [spN_off h (Or.inl rfl), frN_off h, toN_off h, aoN_off h]
theorem c160 (hd : 4 ≤ d) (hI : Inv σ) (hn : FI σ 78 0 = nI nA) (hn85 : FI σ 85 85 = nI nA) (hn2 : nA ≤ 60) (hL : FI σ 60 0 = nI nL) (hL2 : nL ≤ 60) (hs : s < 5) (hm : m < 10) : ∃ τ, Off σ τ ∧ Run false d 160 0 [some (.ref 78), some (.int (nI (m * 5 + s))), some (.int (nI y)), some (.int (nI (aoN σ s y nL))), none] [] σ = some (.inl (some (.int (nI (wiN σ m s y nA nL))), τ)) := by
  obtain ⟨d, rfl⟩ := dS (show 1 ≤ d by omega)
  have lA := (ao_e (y := y) hI.2.2.2.2.2.1 hL hL2 hs (Nat.le_refl _)).2
  have hle := sp_le (m := m) (s := s) (y := y) hI.2.2.2.2.2.2.2.1 hn85 hn2
  have hfr : frN σ m s y nA nL ≤ 1200000 := fr_le hle lA
  obtain ⟨τ, o1, -, r1⟩ := c158 (d := d) (y := y) (m := m) (s := s) (A := aoN σ s y nL) (by omega) hI.2.2.2.2.2.2.2.1 hn hn85 hn2 hs hm lA
  by_cases q : spN σ 143 m s y nA = 0
  · rw [if_pos q] at r1
    refine ⟨τ, o1, ?_⟩
    rw [s160_0, r1, aft_v, s160_7, obl_f (by decide +kernel), cond_false]
    unfold wiN
    rw [if_pos q]
  · rw [if_neg q] at r1
    have hIt := Inv_off o1 hI
    obtain ⟨τ', o2, -, r2⟩ := c159 (σ := τ) (d := d) (y := y) (m := m) (s := s) (nA := nA) (A := aoN σ s y nL) (by omega) hIt.2.2.2.2.2.2.2.1 ((offF o1 78 0 rfl).trans hn) ((offF o1 85 85 rfl).trans hn85) hn2 hs hm lA
    rw [spN_off o1 (Or.inl rfl), spN_off o1 (Or.inr rfl), if_neg q] at r2
    refine ⟨τ', off_t o1 o2, ?_⟩
    have e1 : aoN σ s y nL * (spN σ 144 m s y nA - (rootN (4 * spN σ 144 m s y nA) + 1)) / spN σ 143 m s y nA = frN σ m s y nA nL := rfl
    have e2 : aoN σ s y nL * (spN σ 144 m s y nA + (rootN (4 * spN σ 144 m s y nA) + 1)) / spN σ 143 m s y nA = toN σ m s y nA nL := rfl
    rw [e1] at r1
    rw [e2] at r2
    rw [s160_0, r1, aft_v, s160_7, oleT (Nat.zero_le _) (by omega), cond_true, r2, aft_v, s160_25, nI_sub fr_to]
    unfold wiN
    rw [if_neg q]
theorem c40_lp (hd : 5 ≤ d) (hI : Inv σ) (hn : FI σ 78 0 = nI nA) (hn85 : FI σ 85 85 = nI nA) (hn2 : nA ≤ 60) (hL : FI σ 60 0 = nI nL) (hL2 : nL ≤ 60) (hm : m < 10) : ∃ τ, Off σ τ ∧ Run false (d + 1) 40 17 [some (.ref 0), some (.int (nI m)), some (.int (nI y)), some (.int (-1 : Int32)), some (.int (nI 0)), some (.int (nI 0)), none] [] σ = some (.inl (some (.int (nI (wrP (fun s => wiN σ m s y nA nL) 5).2)), τ)) := by
  have hfb : ∀ s, s < 5 → wiN σ m s y nA nL ≤ 1200000 * 491 := fun s hs => wi_le hI hn85 hn2 hL hL2 hs
  generalize hf : (fun s => wiN σ m s y nA nL) = f
  have hfe : ∀ s, wiN σ m s y nA nL = f s := fun s => by rw [← hf]
  have hfl : ∀ s, s < 5 → f s ≤ 1200000 * 491 := fun s h2 => by rw [← hfe]; exact hfb s h2
  have hst : ∀ j τ (a3 a4 : Int32) (z6 : Option Value), j < 5 → Off σ τ → ∃ τ', Off σ τ' ∧ Run false (d + 1) 40 17 [some (.ref 0), some (.int (nI m)), some (.int (nI y)), some (.int a3), some (.int a4), some (.int (nI j)), z6] [] τ = (bif obl (nI (f j) ≤ a3) then Run false (d + 1) 40 17 [some (.ref 0), some (.int (nI m)), some (.int (nI y)), some (.int a3), some (.int a4), some (.int (nI (j + 1))), some (.int (nI (f j)))] [] τ' else Run false (d + 1) 40 17 [some (.ref 0), some (.int (nI m)), some (.int (nI y)), some (.int (nI (f j))), some (.int (nI j)), some (.int (nI (j + 1))), some (.int (nI (f j)))] [] τ') := by
    intro j τ a3 a4 z6 hj q1
    have hIt := Inv_off q1 hI
    obtain ⟨τ', k1, k3⟩ := c160 (σ := τ) (d := d) (m := m) (s := j) (y := y) (nA := nA) (nL := nL) (by omega) hIt ((offF q1 78 0 rfl).trans hn) ((offF q1 85 85 rfl).trans hn85) hn2 ((offF q1 60 0 rfl).trans hL) hL2 hj hm
    rw [wi_off q1, hfe] at k3
    refine ⟨τ', off_t q1 k1, ?_⟩
    rw [s40_17, oleF hj (by decide), cond_false, c108 (by omega) hIt.2.2.2.2.2.1 ((offF q1 60 0 rfl).trans hL) hL2 hj, aft_v, s40_44, nI_mul, nI_add, k3, aft_v, s40_47, nI_add]
  obtain ⟨τ0, o0, r0⟩ := hst 0 σ (-1) (nI 0) none (by decide) off_r
  obtain ⟨τ, o1, r1⟩ := lpS (P := fun j τ => Off σ τ) (R := fun j τ => Run false (d + 1) 40 17 [some (.ref 0), some (.int (nI m)), some (.int (nI y)), some (.int (nI (wrP f j).1)), some (.int (nI (wrP f j).2)), some (.int (nI j)), some (.int (nI (f (j - 1))))] [] τ) (n := 5) (fun j τ hj hp => by
    obtain ⟨τ', hp', r2⟩ := hst j τ (nI (wrP f j).1) (nI (wrP f j).2) (some (.int (nI (f (j - 1))))) hj hp
    refine ⟨τ', hp', r2.trans ?_⟩
    have l1 := hfl j hj
    have l2 := wrP_le hfl j (by omega)
    show _ = Run false (d + 1) 40 17 [some (.ref 0), some (.int (nI m)), some (.int (nI y)), some (.int (nI (bif Nat.ble (f j) (wrP f j).1 then wrP f j else (f j, j)).1)), some (.int (nI (bif Nat.ble (f j) (wrP f j).1 then wrP f j else (f j, j)).2)), some (.int (nI (j + 1))), some (.int (nI (f j)))] [] τ'
    rw [Olb (by omega) (by omega)]
    cases Nat.ble (f j) (wrP f j).1 <;> rfl) 1 τ0 (by decide) o0
  refine ⟨τ, o1, ?_⟩
  have hm1 : obl (nI (f 0) ≤ (-1 : Int32)) = false := obl_f (fun w => by
    have l0 := hfl 0 (by decide)
    have w1 := Int32.le_iff_toInt_le.mp w
    rw [nI_toInt (by omega), show (-1 : Int32).toInt = -1 by decide +kernel] at w1
    omega)
  rw [hm1, cond_false] at r0
  rw [wrP_1] at r1
  refine r0.trans (r1.trans ?_)
  show Run false (d + 1) 40 17 _ [] τ = _
  rw [s40_17, oleT (Nat.le_refl _) (by decide), cond_true]
theorem c266_lp (hd : 5 ≤ d) (hI : Inv σ) (hn85 : FI σ 85 85 = nI nA) (hn2 : nA ≤ 60) (hL : FI σ 60 0 = nI nL) (hL2 : nL ≤ 60) : ∃ τ, Off σ τ ∧ Run false (d + 1) 266 37 [some (.ref 85), some (.int (nI m)), some (.int (nI y)), some (.int (nI 0)), some (.long (-1 : Int64)), none, some (.int (nI 0)), none, none] [] σ = some (.inl (some (.int (nI (wrP (fun s => wiN σ m s y nA nL) 5).2)), τ)) := by
  have hfb : ∀ s, s < 5 → wiN σ m s y nA nL ≤ 1200000 * 491 := fun s hs => wi_le hI hn85 hn2 hL hL2 hs
  generalize hf : (fun s => wiN σ m s y nA nL) = f
  have hfe : ∀ s, wiN σ m s y nA nL = f s := fun s => by rw [← hf]
  have hfl : ∀ s, s < 5 → f s ≤ 1200000 * 491 := fun s h2 => by rw [← hfe]; exact hfb s h2
  have hst : ∀ j τ (a3 : Int32) (b4 : Int64) (z7 : Option Value), j < 5 → Off σ τ → ∃ τ', Off σ τ' ∧ Run false (d + 1) 266 37 [some (.ref 85), some (.int (nI m)), some (.int (nI y)), some (.int a3), some (.long b4), none, some (.int (nI j)), z7, none] [] τ = (bif obl (b4 < lN (f j)) then Run false (d + 1) 266 37 [some (.ref 85), some (.int (nI m)), some (.int (nI y)), some (.int (nI j)), some (.long (lN (f j))), none, some (.int (nI (j + 1))), some (.long (lN (f j))), none] [] τ' else Run false (d + 1) 266 37 [some (.ref 85), some (.int (nI m)), some (.int (nI y)), some (.int a3), some (.long b4), none, some (.int (nI (j + 1))), some (.long (lN (f j))), none] [] τ') := by
    intro j τ a3 b4 z7 hj q1
    have hIt := Inv_off q1 hI
    have r1 := c261 (σ := τ) (d := d) (m := m) (s := j) (y := y) (nA := nA) (nL := nL) (by omega) hIt.2.2.2.2.2.2.2.1 hIt.2.2.2.2.2.1 ((offF q1 60 0 rfl).trans hL) hL2 ((offF q1 85 85 rfl).trans hn85) hn2 hj
    rw [spN_off q1 (Or.inl rfl), frN_off q1, toN_off q1] at r1
    by_cases q : spN σ 143 m j y nA = 0
    · rw [if_pos q, if_pos q] at r1
      have ew : f j = aoN τ j y nL := by
        rw [← hfe, aoN_off q1]
        unfold wiN
        rw [if_pos q]
      refine ⟨τ, q1, ?_⟩
      rw [s266_37, oleF hj (by decide), cond_false, r1, aft_v, s266_51, obl_t rfl, cond_true, c260 (by omega) hIt.2.2.2.2.2.1 ((offF q1 60 0 rfl).trans hL) hL2 hj, aft_v, s266_73, ← ew, lgGt, nI_add]
    · rw [if_neg q, if_neg q] at r1
      have ew : toN σ m j y nA nL - frN σ m j y nA nL = f j := by
        rw [← hfe]
        unfold wiN
        rw [if_neg q]
      have o2 : Off τ (wFL (wFL τ 85 91 (lN (frN σ m j y nA nL))) 85 92 (lN (toN σ m j y nA nL))) := off_fl (off_fl off_r rfl) rfl
      refine ⟨_, off_t q1 o2, ?_⟩
      rw [s266_37, oleF hj (by decide), cond_false, r1, aft_v, s266_51, obl_f nI_10, cond_false, FL_q, FL_n (Or.inr (by decide)), FL_q, lN_sub fr_to, s266_73, ew, lgGt, nI_add]
  obtain ⟨τ0, o0, r0⟩ := hst 0 σ (nI 0) (-1) none (by decide) off_r
  obtain ⟨τ, o1, r1⟩ := lpS (P := fun j τ => Off σ τ) (R := fun j τ => Run false (d + 1) 266 37 [some (.ref 85), some (.int (nI m)), some (.int (nI y)), some (.int (nI (wrP f j).2)), some (.long (lN (wrP f j).1)), none, some (.int (nI j)), some (.long (lN (f (j - 1)))), none] [] τ) (n := 5) (fun j τ hj hp => by
    obtain ⟨τ', hp', r2⟩ := hst j τ (nI (wrP f j).2) (lN (wrP f j).1) (some (.long (lN (f (j - 1))))) hj hp
    refine ⟨τ', hp', r2.trans ?_⟩
    have l1 := hfl j hj
    have l2 := wrP_le hfl j (by omega)
    show _ = Run false (d + 1) 266 37 [some (.ref 85), some (.int (nI m)), some (.int (nI y)), some (.int (nI (bif Nat.ble (f j) (wrP f j).1 then wrP f j else (f j, j)).2)), some (.long (lN (bif Nat.ble (f j) (wrP f j).1 then wrP f j else (f j, j)).1)), none, some (.int (nI (j + 1))), some (.long (lN (f j))), none] [] τ'
    rw [LLt (by omega) (by omega)]
    cases Nat.ble (f j) (wrP f j).1 <;> rfl) 1 τ0 (by decide) o0
  refine ⟨τ, o1, ?_⟩
  have hm1 : obl ((-1 : Int64) < lN (f 0)) = true := obl_t (by
    have l0 := hfl 0 (by decide)
    refine Int64.lt_iff_toInt_lt.mpr ?_
    rw [lN_toInt (by omega), show (-1 : Int64).toInt = -1 by decide +kernel]
    omega)
  rw [hm1, cond_true] at r0
  rw [wrP_1] at r1
  refine r0.trans (r1.trans ?_)
  show Run false (d + 1) 266 37 _ [] τ = _
  rw [s266_37, oleT (Nat.le_refl _) (by decide), cond_true]
end WO
