/-! THE PURE PROOFS: samples and spans -/
theorem sq_ex (n : Nat) : ∃ R, R * R ≤ n ∧ n < (R + 1) * (R + 1) := by
  induction n with
  | zero => exact ⟨0, by decide, by decide⟩
  | succ n ih =>
    obtain ⟨R, h1, h2⟩ := ih
    by_cases h : (R + 1) * (R + 1) ≤ n + 1
    · refine ⟨R + 1, h, ?_⟩
      have : (R + 1 + 1) * (R + 1 + 1) = (R + 1) * (R + 1) + 2 * (R + 1) + 1 := by
        rw [Nat.mul_add, Nat.add_mul, Nat.mul_one]; omega
      omega
    · exact ⟨R, by omega, by omega⟩
noncomputable def rootN (n : Nat) : Nat := Classical.choose (sq_ex n)
theorem root_h (n : Nat) : rootN n * rootN n ≤ n ∧ n < (rootN n + 1) * (rootN n + 1) := Classical.choose_spec (sq_ex n)
theorem root_le {n : Nat} (h : n ≤ 240000) : rootN n ≤ 489 := by
  rcases Nat.lt_or_ge 489 (rootN n) with q | q
  · exfalso
    have h1 := (root_h n).1
    have h2 : 490 * 490 ≤ rootN n * rootN n := Nat.mul_le_mul q q
    omega
  · exact q
/-- what all loads of a year came to -/
noncomputable def aoV (σ : PS) (s y : Nat) : Nat → Int32
  | 0 => nI 0
  | l + 1 => bif obl (AI σ 123 l = nI y) then aoV σ s y l + AI σ 64 (5 * l + s) else aoV σ s y l
noncomputable def aoN (σ : PS) (s y n : Nat) : Nat := (aoV σ s y n).toNatClampNeg
/-- looked at, found -/
noncomputable def spV (σ : PS) (o m s y : Nat) : Nat → Int32
  | 0 => nI 0
  | j + 1 => bif obl (AI σ 140 j = nI m) then (bif obl (AI σ 141 j = nI s) then (bif obl (AI σ 142 j = nI y) then spV σ o m s y j + AI σ o j else spV σ o m s y j) else spV σ o m s y j) else spV σ o m s y j
noncomputable def spN (σ : PS) (o m s y n : Nat) : Nat := (spV σ o m s y n).toNatClampNeg
section SP
variable {d m s y : Nat} {σ : PS}
theorem ao_b {nL : Nat} (h : IO_ σ) (hn : FI σ 60 0 = nI nL) (hn2 : nL ≤ 60) (hs : s < 5) : ∀ j, j ≤ nL → ∃ v, v ≤ 20000 * j ∧ aoV σ s y j = nI v := by
  obtain ⟨n', q, h1, h2, h3, h4, h5, h6, hLo, -⟩ := h
  have : nL = n' := (nI_eq (by omega) (by omega)).mp (hn.symm.trans h4)
  subst this
  intro j
  induction j with
  | zero => intro _; exact ⟨0, by decide, rfl⟩
  | succ j ih =>
    intro hj
    obtain ⟨v, hv, ev⟩ := ih (by omega)
    obtain ⟨t, yy, k, u, p, b1, b2, b3, b4, b5, f1, f2, f3, f4, f5, f6, f7, f8⟩ := hLo j (by omega)
    have hp := (f8 s hs).1
    have ho := outN_le (l := u) b4 hp
    unfold aoV
    rw [ev, (f8 s hs).2.2]
    cases obl (AI σ 123 j = nI y)
    · exact ⟨v, by omega, rfl⟩
    · exact ⟨v + outN k (p s) u, by omega, by rw [cond_true, nI_add]⟩
theorem ao_e {nL j : Nat} (h : IO_ σ) (hn : FI σ 60 0 = nI nL) (hn2 : nL ≤ 60) (hs : s < 5) (hj : j ≤ nL) : aoV σ s y j = nI (aoN σ s y j) ∧ aoN σ s y j ≤ 1200000 := by
  obtain ⟨v, hv, ev⟩ := ao_b (y := y) h hn hn2 hs j hj
  unfold aoN
  rw [ev, nI_clamp (by omega)]
  exact ⟨rfl, by omega⟩
theorem c108 {nL : Nat} (hd : 2 ≤ d) (h : IO_ σ) (hn : FI σ 60 0 = nI nL) (hn2 : nL ≤ 60) (hs : s < 5) : Run false d 108 0 [some (.ref 60), some (.int (nI s)), some (.int (nI y)), none, none] [] σ = some (.inl (some (.int (nI (aoN σ s y nL))), σ)) := by
  obtain ⟨d, rfl⟩ := dS (show 1 ≤ d by omega)
  rw [s108_0, ← (ao_e h hn hn2 hs (Nat.le_refl _)).1]
  refine (lpU (f := fun j => Run false (d + 1) 108 5 [some (.ref 60), some (.int (nI s)), some (.int (nI y)), some (.int (aoV σ s y j)), some (.int (nI j))] [] σ) (n := nL) (fun j hj => ?_) 0 (Nat.zero_le _)).trans ?_
  · obtain ⟨n', q, h1, h2, h3, h4, h5, h6, hLo, -⟩ := h
    have : nL = n' := (nI_eq (by omega) (by omega)).mp (hn.symm.trans h4)
    subst this
    obtain ⟨t, yy, k, u, p, b1, b2, b3, b4, b5, f1, f2, f3, f4, f5, f6, f7, f8⟩ := hLo j hj
    rw [s108_5, hn, oleF hj (by omega), cond_false, inbT (show j < 60 by omega) (by decide), cond_true, nI_clamp (by omega), f4, ← f3, c107 (by omega) (by omega) hs, aft_v, s108_33, nI_add]
    show (_ : Option PO) = Run false (d + 1) 108 5 [some (.ref 60), some (.int (nI s)), some (.int (nI y)), some (.int (bif obl (AI σ 123 j = nI y) then aoV σ s y j + AI σ 64 (5 * j + s) else aoV σ s y j)), some (.int (nI (j + 1)))] [] σ
    cases obl (AI σ 123 j = nI y) <;> rfl
  · rw [s108_5, hn, oleT (Nat.le_refl _) (by omega), cond_true]
theorem c260 {nL : Nat} (hd : 2 ≤ d) (h : IO_ σ) (hn : FI σ 60 0 = nI nL) (hn2 : nL ≤ 60) (hs : s < 5) : Run false d 260 0 [some (.ref 85), some (.int (nI s)), some (.int (nI y)), none, none, none] [] σ = some (.inl (some (.long (lN (aoN σ s y nL))), σ)) := by
  obtain ⟨d, rfl⟩ := dS (show 1 ≤ d by omega)
  have hao := fun j hj => ao_e (y := y) (j := j) h hn hn2 hs hj
  obtain ⟨n', q, h1, h2, h3, h4, h5, h6, hLo, -⟩ := id h
  have : nL = n' := (nI_eq (by omega) (by omega)).mp (hn.symm.trans h4)
  subst this
  rw [s260_0]
  refine (lpU (f := fun j => Run false (d + 1) 260 5 [some (.ref 85), some (.int (nI s)), some (.int (nI y)), some (.long (lN (aoN σ s y j))), none, some (.int (nI j))] [] σ) (n := nL) (fun j hj => ?_) 0 (Nat.zero_le _)).trans ?_
  · obtain ⟨t, yy, k, u, p, b1, b2, b3, b4, b5, f1, f2, f3, f4, f5, f6, f7, f8⟩ := hLo j hj
    obtain ⟨p1, p2, p3⟩ := f8 s hs
    have ho := outN_le (l := u) b4 p1
    have e1 := (hao j (by omega)).1
    have l1 := (hao j (by omega)).2
    have e2 : aoN σ s y (j + 1) = bif obl (nI yy = nI y) then aoN σ s y j + outN k (p s) u else aoN σ s y j := by
      have : aoV σ s y (j + 1) = nI (bif obl (nI yy = nI y) then aoN σ s y j + outN k (p s) u else aoN σ s y j) := by
        show (bif obl (AI σ 123 j = nI y) then aoV σ s y j + AI σ 64 (5 * j + s) else aoV σ s y j) = _
        rw [f3, e1, p3, nI_add]
        cases obl (nI yy = nI y) <;> rfl
      show (aoV σ s y (j + 1)).toNatClampNeg = _
      rw [this, nI_clamp]
      cases obl (nI yy = nI y)
      · show aoN σ s y j < _; omega
      · show aoN σ s y j + outN k (p s) u < _; omega
    rw [s260_5, h3, oleF hj (by omega), cond_false, inbT (show j < 60 by omega) (by decide), cond_true, nI_clamp (by omega), f3, c246 (by omega) (by omega) hs b4 p1 b5 f5 p2 f6, aft_v, s260_33, nI_l (by omega), lN_add, lN_add, nI_add, e2]
    cases obl (nI yy = nI y) <;> rfl
  · rw [s260_5, h3, oleT (Nat.le_refl _) (by omega), cond_true]
theorem sp_b {nA o : Nat} (h : IM σ) (hn : FI σ 85 85 = nI nA) (hn2 : nA ≤ 60) (ho : o = 143 ∨ o = 144) : ∀ j, j ≤ nA → ∃ v, v ≤ 1000 * j ∧ spV σ o m s y j = nI v := by
  obtain ⟨n', h1, h2, h3, h4⟩ := h
  have : nA = n' := (nI_eq (by omega) (by omega)).mp (hn.symm.trans h2)
  subst this
  intro j
  induction j with
  | zero => intro _; exact ⟨0, by decide, rfl⟩
  | succ j ih =>
    intro hj
    obtain ⟨v, hv, ev⟩ := ih (by omega)
    obtain ⟨m', s', y', hh, w, c1, c2, c3, c4, c5, c6, e1, e2, e3, e4, e5, -⟩ := h4 j (by omega)
    have : ∃ x, x ≤ 1000 ∧ AI σ o j = nI x := by
      rcases ho with rfl | rfl
      · exact ⟨hh, c5, e4⟩
      · exact ⟨w, by omega, e5⟩
    obtain ⟨x, hx, ex⟩ := this
    unfold spV
    rw [ev, ex]
    cases obl (AI σ 140 j = nI m)
    · exact ⟨v, by omega, rfl⟩
    · cases obl (AI σ 141 j = nI s)
      · exact ⟨v, by omega, rfl⟩
      · cases obl (AI σ 142 j = nI y)
        · exact ⟨v, by omega, rfl⟩
        · exact ⟨v + x, by omega, by rw [cond_true, cond_true, cond_true, nI_add]⟩
theorem sp_e {nA o : Nat} (h : IM σ) (hn : FI σ 85 85 = nI nA) (hn2 : nA ≤ 60) (ho : o = 143 ∨ o = 144) : spV σ o m s y nA = nI (spN σ o m s y nA) ∧ spN σ o m s y nA ≤ 60000 := by
  obtain ⟨v, hv, ev⟩ := sp_b (m := m) (s := s) (y := y) h hn hn2 ho nA (Nat.le_refl _)
  unfold spN
  rw [ev, nI_clamp (by omega)]
  exact ⟨rfl, by omega⟩
/-- the class gathers -/
theorem c156 {nA : Nat} (hd : 1 ≤ d) (h : IM σ) (hn : FI σ 78 0 = nI nA) (hn2 : nA ≤ 60) (hs : s < 5) (hm : m < 10) : ∃ τ, Off σ τ ∧ AI τ = AI σ ∧ FI τ 78 1 = spV σ 143 m s y nA ∧ FI τ 78 2 = spV σ 144 m s y nA ∧ Run false d 156 0 [some (.ref 78), some (.int (nI (m * 5 + s))), some (.int (nI y)), none] [] σ = some (.inl (none, τ)) := by
  obtain ⟨d, rfl⟩ := dS hd
  obtain ⟨n', h1, h2, h3, h4⟩ := h
  have : nA = n' := (nI_eq (by omega) (by omega)).mp (hn.symm.trans h3)
  subst this
  obtain ⟨τ, ⟨p1, p2, p3, p4⟩, p5⟩ := lpS (P := fun j τ => Off σ τ ∧ AI τ = AI σ ∧ FI τ 78 1 = spV σ 143 m s y j ∧ FI τ 78 2 = spV σ 144 m s y j) (R := fun j τ => Run false (d + 1) 156 12 [some (.ref 78), some (.int (nI (m * 5 + s))), some (.int (nI y)), some (.int (nI j))] [] τ) (n := nA) (fun j τ hj hp => by
    obtain ⟨q1, q2, q3, q4⟩ := hp
    obtain ⟨m', s', y', hh, w, c1, c2, c3, c4, c5, c6, e1, e2, e3, e4, e5, e6, e7, e8, e9⟩ := h4 j hj
    have em : obl (nI (m' * 5 + s') = nI (m * 5 + s)) = (obl (nI m' = nI m) && obl (nI s' = nI s)) := by
      rw [Oeb (by omega) (by omega), Oeb (by omega) (by omega), Oeb (by omega) (by omega)]
      by_cases w1 : m' = m
      · by_cases w2 : s' = s
        · rw [Nbt w1, Nbt w2, Nbt (by omega)]; rfl
        · rw [Nbt w1, Nbf w2, Nbf (by omega)]; rfl
      · rw [Nbf w1, Nbf (by omega)]; rfl
    have st : Run false (d + 1) 156 12 [some (.ref 78), some (.int (nI (m * 5 + s))), some (.int (nI y)), some (.int (nI j))] [] τ = bif (obl (nI m' = nI m) && obl (nI s' = nI s)) then (bif obl (nI y' = nI y) then Run false (d + 1) 156 12 [some (.ref 78), some (.int (nI (m * 5 + s))), some (.int (nI y)), some (.int (nI (j + 1)))] [] (wFI (wFI τ 78 1 (FI τ 78 1 + nI hh)) 78 2 (FI τ 78 2 + nI w)) else Run false (d + 1) 156 12 [some (.ref 78), some (.int (nI (m * 5 + s))), some (.int (nI y)), some (.int (nI (j + 1)))] [] τ) else Run false (d + 1) 156 12 [some (.ref 78), some (.int (nI (m * 5 + s))), some (.int (nI y)), some (.int (nI (j + 1)))] [] τ := by
      rw [s156_12]
      simp (disch := omega) only [offF q1 78 0 rfl, hn, oleF, cond_false, inbT, cond_true, nI_clamp, nI_add, q2, e6, e7, e8, e9, em]
    have sv : ∀ o, spV σ o m s y (j + 1) = bif (obl (nI m' = nI m) && obl (nI s' = nI s)) then (bif obl (nI y' = nI y) then spV σ o m s y j + AI σ o j else spV σ o m s y j) else spV σ o m s y j := by
      intro o
      show (bif obl (AI σ 140 j = nI m) then _ else _) = _
      rw [e1, e2, e3]
      cases obl (nI m' = nI m) <;> cases obl (nI s' = nI s) <;> rfl
    cases u1 : (obl (nI m' = nI m) && obl (nI s' = nI s))
    · exact ⟨τ, ⟨q1, q2, by rw [sv, u1]; exact q3, by rw [sv, u1]; exact q4⟩, by rw [st, u1]; rfl⟩
    · cases u2 : obl (nI y' = nI y)
      · exact ⟨τ, ⟨q1, q2, by rw [sv, u1, u2]; exact q3, by rw [sv, u1, u2]; exact q4⟩, by rw [st, u1, u2]; rfl⟩
      · refine ⟨wFI (wFI τ 78 1 (FI τ 78 1 + nI hh)) 78 2 (FI τ 78 2 + nI w), ⟨off_fi (off_fi q1 rfl) rfl, q2, ?_, ?_⟩, by rw [st, u1, u2]; rfl⟩
        · rw [FI_n (Or.inr (by decide)), FI_q, sv, u1, u2, q3, e4]; rfl
        · rw [FI_q, sv, u1, u2, q4, e5]; rfl) 0 (wFI (wFI σ 78 1 (nI 0)) 78 2 (nI 0)) (Nat.zero_le _) ⟨off_fi (off_fi off_r rfl) rfl, rfl, rfl, rfl⟩
  refine ⟨τ, p1, p2, p3, p4, ?_⟩
  rw [s156_0]
  refine p5.trans ?_
  show Run false (d + 1) 156 12 _ [] τ = _
  rw [s156_12, offF p1 78 0 rfl, hn, oleT (Nat.le_refl _) (by omega), cond_true]
theorem c157 {f : Nat} (hd : 1 ≤ d) (hf : FI σ 78 2 = nI f) (hf2 : f ≤ 60000) : Run false d 157 0 [some (.ref 78), none] [] σ = some (.inl (some (.int (nI (rootN (4 * f) + 1))), σ)) := by
  obtain ⟨d, rfl⟩ := dS hd
  obtain ⟨r1, r2⟩ := root_h (4 * f)
  have r3 := root_le (n := 4 * f) (by omega)
  rw [s157_0]
  have sq : ∀ r, r ≤ 489 → (r + 1) * (r + 1) ≤ 490 * 490 := fun r h => Nat.mul_le_mul (by omega) (by omega)
  refine (lpU (f := fun j => Run false (d + 1) 157 2 [some (.ref 78), some (.int (nI j))] [] σ) (n := rootN (4 * f)) (fun j hj => ?_) 0 (Nat.zero_le _)).trans ?_
  · have h1 : (j + 1) * (j + 1) ≤ rootN (4 * f) * rootN (4 * f) := Nat.mul_le_mul hj hj
    have h2 := sq j (by omega)
    rw [s157_2, oleF (show j < 500 by omega) (by decide), cond_false, hf, nI_mul, nI_add, nI_mul, oltF (by omega) (by omega), cond_false]
  · have h2 := sq (rootN (4 * f)) r3
    rw [s157_2, oleF (show rootN (4 * f) < 500 by omega) (by decide), cond_false, hf, nI_mul, nI_add, nI_mul, oltT (by omega) (by omega), cond_true, nI_add, Nat.add_comm 1]
end SP
