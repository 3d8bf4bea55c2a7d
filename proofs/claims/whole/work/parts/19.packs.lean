/-! THE PURE PROOFS: packets -/
section PK
variable {d s y : Nat} {LS : List LAW} {X : Option (List CLS)} {σ : PS}
theorem c100_target (hd : 2 ≤ d) (hs : s ≤ 4) (hy : y ≤ 40) (h : LC LS σ) : Run false d 100 0 [some (.ref 1), some (.int (nI 211)), some (.int (nI s)), some (.int (nI y)), some (.int (nI 0)), none] [] σ = some (.inl (some (.int (nI (numV (clL LS 1 s y) 0))), σ)) := c100 (k := 1) hd (by decide) hs hy h
theorem c100_off (hd : 2 ≤ d) (hs : s ≤ 4) (hy : y ≤ 40) (h : LC LS σ) : Run false d 100 0 [some (.ref 1), some (.int (nI 212)), some (.int (nI s)), some (.int (nI y)), some (.int (nI 100)), none] [] σ = some (.inl (some (.int (nI (numV (clL LS 2 s y) 100))), σ)) := c100 (k := 2) hd (by decide) hs hy h
theorem c100_towns (hd : 2 ≤ d) (hs : s ≤ 4) (hy : y ≤ 40) (h : LC LS σ) : Run false d 100 0 [some (.ref 1), some (.int (nI 213)), some (.int (nI s)), some (.int (nI y)), some (.int (nI 0)), none] [] σ = some (.inl (some (.int (nI (numV (clL LS 3 s y) 0))), σ)) := c100 (k := 3) hd (by decide) hs hy h
theorem c100_least (hd : 2 ≤ d) (hy : y ≤ 40) (h : LC LS σ) : Run false d 100 0 [some (.ref 1), some (.int (nI 215)), some (.int (-1 : Int32)), some (.int (nI y)), some (.int (nI 0)), none] [] σ = some (.inl (some (.int (nI (numV (clL LS 5 0 y) 0))), σ)) := c100 (k := 5) (s := 0) hd (by decide) (by decide) hy h
theorem c100_trips (hd : 2 ≤ d) (hy : y ≤ 40) (h : LC LS σ) : Run false d 100 0 [some (.ref 1), some (.int (nI 216)), some (.int (-1 : Int32)), some (.int (nI y)), some (.int (nI 1)), none] [] σ = some (.inl (some (.int (nI (numV (clL LS 6 0 y) 1))), σ)) := c100 (k := 6) (s := 0) hd (by decide) (by decide) hy h
theorem c100_orph (hd : 2 ≤ d) (hy : y ≤ 40) (h : LC LS σ) : Run false d 100 0 [some (.ref 1), some (.int (nI 217)), some (.int (-1 : Int32)), some (.int (nI y)), some (.int (nI 0)), none] [] σ = some (.inl (some (.int (nI (numV (clL LS 7 0 y) 0))), σ)) := c100 (k := 7) (s := 0) hd (by decide) (by decide) hy h
theorem c200_target (hd : 2 ≤ d) (hs : s ≤ 4) (hy : y ≤ 40) (h : LM LS X σ) : Run false d 200 0 [some (.ref 85), some (.int (nI 1)), some (.int (nI s)), some (.int (nI y)), none] [] σ = some (.inl (some (.int (nI (numV (clX LS X 1 s y) 0))), σ)) := c200 (k := 1) hd (by decide) hs hy h
theorem c200_off (hd : 2 ≤ d) (hs : s ≤ 4) (hy : y ≤ 40) (h : LM LS X σ) : Run false d 200 0 [some (.ref 85), some (.int (nI 2)), some (.int (nI s)), some (.int (nI y)), none] [] σ = some (.inl (some (.int (nI (numV (clX LS X 2 s y) 100))), σ)) := c200 (k := 2) hd (by decide) hs hy h
theorem c200_towns (hd : 2 ≤ d) (hs : s ≤ 4) (hy : y ≤ 40) (h : LM LS X σ) : Run false d 200 0 [some (.ref 85), some (.int (nI 3)), some (.int (nI s)), some (.int (nI y)), none] [] σ = some (.inl (some (.int (nI (numV (clX LS X 3 s y) 0))), σ)) := c200 (k := 3) hd (by decide) hs hy h
theorem c200_least (hd : 2 ≤ d) (hy : y ≤ 40) (h : LM LS X σ) : Run false d 200 0 [some (.ref 85), some (.int (nI 5)), some (.int (nI 0)), some (.int (nI y)), none] [] σ = some (.inl (some (.int (nI (numV (clX LS X 5 0 y) 0))), σ)) := c200 (k := 5) (s := 0) hd (by decide) (by decide) hy h
theorem c200_trips (hd : 2 ≤ d) (hy : y ≤ 40) (h : LM LS X σ) : Run false d 200 0 [some (.ref 85), some (.int (nI 6)), some (.int (nI 0)), some (.int (nI y)), none] [] σ = some (.inl (some (.int (nI (numV (clX LS X 6 0 y) 1))), σ)) := c200 (k := 6) (s := 0) hd (by decide) (by decide) hy h
theorem c200_orph (hd : 2 ≤ d) (hy : y ≤ 40) (h : LM LS X σ) : Run false d 200 0 [some (.ref 85), some (.int (nI 7)), some (.int (nI 0)), some (.int (nI y)), none] [] σ = some (.inl (some (.int (nI (numV (clX LS X 7 0 y) 0))), σ)) := c200 (k := 7) (s := 0) hd (by decide) (by decide) hy h
/-- grams of a make, 0 without makes -/
noncomputable def grM (σ : PS) (p k s : Nat) : Int32 := bif obl (AI σ 98 p = nI 0) then nI 0 else AI σ 100 (5 * (5 * p + k) + s)
/-- what so many grams come to -/
noncomputable def kgF (g sold abr trp : Int32) (off most : Nat) : Int32 := g * (nI 100 * sold - nI off * abr) / nI 100 / (bif obl (nI most ≤ trp) then nI most else trp)
noncomputable def kgM (σ : PS) (off most p k s y : Nat) : Int32 := kgF (grM σ p k s) (AI σ 102 (41 * p + y)) (AI σ 103 (41 * p + y)) (AI σ 104 (41 * p + y)) off most
theorem c213 {p k : Nat} (hd : 1 ≤ d) (hp : p < 20) (hk : k < 5) (hs : s ≤ 4) : Run false d 213 0 [some (.ref 85), some (.int (nI p)), some (.int (nI k)), some (.int (nI s))] [] σ = some (.inl (some (.int (grM σ p k s)), σ)) := by
  obtain ⟨d, rfl⟩ := dS hd
  rw [s213_0]
  simp (disch := omega) only [inbT, cond_true, nI_clamp, nI_mul, nI_add]
  unfold grM
  cases obl (AI σ 98 p = nI 0) <;> rfl
theorem c214 {p k : Nat} (hd : 3 ≤ d) (hp : p < 20) (hk : k < 5) (hs : s ≤ 4) (hy : y ≤ 40) (h : LM LS X σ) (ht : IR 1 50 (AI σ 104 (41 * p + y))) : Run false d 214 0 [some (.ref 85), some (.int (nI p)), some (.int (nI k)), some (.int (nI s)), some (.int (nI y)), none, none, none] [] σ = some (.inl (some (.int (kgM σ (numV (clX LS X 2 s y) 100) (numV (clX LS X 6 0 y) 1) p k s y)), σ)) := by
  obtain ⟨d, rfl⟩ := dS (show 1 ≤ d by omega)
  obtain ⟨t, ht1, ht2, et⟩ := ht
  have hm := num_trips (atM_ok (clX_M (k := 6) (s := 0) (y := y) h))
  generalize hmo : numV (clX LS X 6 0 y) 1 = mo at hm
  have h100 : obl (nI 100 = nI 0) = false := oeqF (by decide) (by decide) (by decide)
  have hby : obl ((bif obl (nI mo ≤ nI t) then nI mo else nI t) = nI 0) = false := by
    cases obl (nI mo ≤ nI t)
    · exact oeqF (show t ≠ 0 by omega) (by omega) (by decide)
    · exact oeqF (show mo ≠ 0 by omega) (by omega) (by decide)
  rw [s214_0, c200_trips (by omega) hy h, aft_v, s214_18, hmo]
  simp (disch := omega) only [inbT, cond_true, nI_clamp, nI_mul, nI_add, et]
  unfold kgM kgF
  rw [et]
  cases hb : obl (nI mo ≤ nI t) with
  | true =>
    rw [hb] at hby
    rw [cond_true, c213 (by omega) hp hk hs, aft_v, s214_53]
    simp (disch := omega) only [inbT, cond_true, nI_clamp]
    rw [c200_off (by omega) hs hy h, aft_v, s214_71]
    simp (disch := omega) only [inbT, cond_true, nI_clamp, h100, cond_false]
    rw [show obl (nI mo = nI 0) = false from hby]
    rfl
  | false =>
    rw [hb] at hby
    rw [cond_false, c213 (by omega) hp hk hs, aft_v, s214_53]
    simp (disch := omega) only [inbT, cond_true, nI_clamp]
    rw [c200_off (by omega) hs hy h, aft_v, s214_71]
    simp (disch := omega) only [inbT, cond_true, nI_clamp, h100, cond_false]
    rw [show obl (nI t = nI 0) = false from hby]
    rfl
theorem zmul (x : Int32) : nI 0 * x = nI 0 := Int32.zero_mul
theorem zdiv (x : Int32) : nI 0 / x = nI 0 := by
  apply Int32.toInt_inj.mp
  rw [Int32.toInt_div, nI_0i, Int.zero_tdiv]; rfl
theorem kg_0 {sold abr trp : Int32} {off most : Nat} : kgF (nI 0) sold abr trp off most = nI 0 := by
  unfold kgF
  rw [zmul, zdiv, zdiv]
theorem IP_all (h : IP σ) {j : Nat} (hj : j < 820) : AI σ 21 j = AI σ 102 j ∧ AI σ 22 j = AI σ 103 j := ⟨(h.2.2.1 j hj).1, (h.2.2.1 j hj).2.1⟩
theorem c125 {g : Nat} (hd : 1 ≤ d) (hI : IP σ) (hg : g < 100) (hs : s ≤ 4) : Run false d 125 0 [some (.ref 17), some (.int (nI g)), some (.int (nI s))] [] σ = some (.inl (some (.int (AI σ 100 (5 * g + s))), σ)) := by
  obtain ⟨d, rfl⟩ := dS hd
  have e : g * 5 + s = 5 * g + s := by omega
  rw [s125_0]
  simp (disch := omega) only [inbT, cond_true, nI_clamp, nI_mul, nI_add, e]
  rw [(hI.2.2.2.1 _ (by omega)).1]
/-- the class's kilograms by a make -/
theorem c128 {p k off most t : Nat} (hd : 2 ≤ d) (hI : IP σ) (hp : p < 20) (hk : k < 5) (hs : s ≤ 4) (hy : y ≤ 40) (ht1 : 1 ≤ t) (ht2 : t ≤ 50) (et : AI σ 104 (41 * p + y) = nI t) (e23 : AI σ 23 (41 * p + y) = nI t) (hm : 1 ≤ most ∧ most ≤ 50) (hmk : ¬ AI σ 98 p = nI 0) : Run false d 128 0 [some (.ref 17), some (.int (nI (5 * p + k))), some (.int (nI s)), some (.int (nI y)), some (.int (nI off)), some (.int (nI most)), none, none, none] [] σ = some (.inl (some (.int (kgM σ off most p k s y)), σ)) := by
  obtain ⟨d, rfl⟩ := dS (show 1 ≤ d by omega)
  have e1 : (5 * p + k) / 5 = p := by omega
  have e2 : p * 41 + y = 41 * p + y := by omega
  have h5 : obl (nI 5 = nI 0) = false := oeqF (by decide) (by decide) (by decide)
  have h100 : obl (nI 100 = nI 0) = false := oeqF (by decide) (by decide) (by decide)
  obtain ⟨a1, a2⟩ := IP_all hI (j := 41 * p + y) (by omega)
  rw [s128_0]
  simp (disch := omega) only [h5, cond_false, inbT, cond_true, nI_clamp, nI_quo, e1, e2, nI_mul, nI_add, a1, a2, e23]
  have hmin : (if nI 1 < (if nI most < nI t then nI most else nI t) then (if nI most < nI t then nI most else nI t) else nI 1) = (bif obl (nI most ≤ nI t) then nI most else nI t) := by
    by_cases q : most ≤ t
    · rw [oleT q (by omega), cond_true]
      by_cases q2 : most < t
      · rw [if_pos (nI_lt q2 (by omega))]
        by_cases q3 : 1 < most
        · rw [if_pos (nI_lt q3 (by omega))]
        · rw [if_neg (nI_nlt (by omega) (by omega)), show most = 1 by omega]
      · rw [if_neg (nI_nlt (by omega) (by omega)), show t = most by omega]
        by_cases q3 : 1 < most
        · rw [if_pos (nI_lt q3 (by omega))]
        · rw [if_neg (nI_nlt (by omega) (by omega)), show most = 1 by omega]
    · rw [oleF (by omega) (by omega), cond_false, if_neg (nI_nlt (by omega) (by omega))]
      by_cases q3 : 1 < t
      · rw [if_pos (nI_lt q3 (by omega))]
      · rw [if_neg (nI_nlt (by omega) (by omega)), show t = 1 by omega]
  rw [hmin, c125 (by omega) hI (by omega) hs, aft_v, s128_57, h100, cond_false]
  have hby : obl ((bif obl (nI most ≤ nI t) then nI most else nI t) = nI 0) = false := by
    cases obl (nI most ≤ nI t)
    · exact oeqF (show t ≠ 0 by omega) (by omega) (by decide)
    · exact oeqF (show most ≠ 0 by omega) (by omega) (by decide)
  rw [hby, cond_false]
  unfold kgM kgF grM
  rw [obl_f hmk, cond_false, et]
theorem c54 {p k t : Nat} (hd : 3 ≤ d) (hI : IP σ) (hp : p < 20) (hk : k < 5) (hs : s ≤ 4) (hy : y ≤ 40) (ht1 : 1 ≤ t) (ht2 : t ≤ 50) (et : AI σ 104 (41 * p + y) = nI t) (e23 : AI σ 23 (41 * p + y) = nI t) (hmk : ¬ AI σ 98 p = nI 0) (h : LC LS σ) : Run false d 54 0 [some (.ref 0), some (.int (nI (5 * p + k))), some (.int (nI s)), some (.int (nI y)), none, none] [] σ = some (.inl (some (.int (kgM σ (numV (clL LS 2 s y) 100) (numV (clL LS 6 0 y) 1) p k s y)), σ)) := by
  obtain ⟨d, rfl⟩ := dS (show 1 ≤ d by omega)
  have hm := num_trips (atC_ok (clF_C (k := 6) (s := 0) (y := y) h))
  rw [s54_0, oleT (Nat.zero_le _) (by omega), cond_true, c100_off (by omega) hs hy h, aft_v, s54_20, c100_trips (by omega) hy h, aft_v, s54_35, c128 (by omega) hI hp hk hs hy ht1 ht2 et e23 hm hmk, aft_v, s54_51]
theorem c54_no (hd : 1 ≤ d) : Run false d 54 0 [some (.ref 0), some (.int (-1 : Int32)), some (.int (nI s)), some (.int (nI y)), none, none] [] σ = some (.inl (some (.int (nI 0)), σ)) := by
  obtain ⟨d, rfl⟩ := dS hd
  rw [s54_0, obl_f (show ¬ nI 0 ≤ (-1 : Int32) by decide +kernel)]
  rfl
/-- the make by which a packet is made -/
theorem mk_of (hI : IP σ) {p : Nat} (hp : p < 20) : (AI σ 98 p = nI 0 ∧ AI σ 99 p = nI 0 ∧ AI σ 19 p = nI 0 ∧ AI σ 20 p = nI 0) ∨ ∃ k n, k < n ∧ n ≤ 5 ∧ AI σ 99 p = nI k ∧ AI σ 20 p = nI k ∧ AI σ 98 p = nI n ∧ AI σ 19 p = nI n ∧ ¬ AI σ 98 p = nI 0 := by
  obtain ⟨-, -, e19, e20, h⟩ := hI.2.1 p hp
  rcases h with ⟨h1, h2⟩ | ⟨k, n, h1, h2, h3, h4⟩
  · exact Or.inl ⟨h1, h2, e19.trans h1, e20.trans h2⟩
  · refine Or.inr ⟨k, n, h1, h2, h3, e20.trans h3, h4, e19.trans h4, ?_⟩
    rw [h4]
    exact fun q => by have := (nI_eq (by omega) (by decide)).mp q; omega
theorem c127 {p : Nat} (hd : 1 ≤ d) (hI : IP σ) (hp : p < 20) : (AI σ 98 p = nI 0 ∧ AI σ 99 p = nI 0 ∧ Run false d 127 0 [some (.ref 17), some (.int (nI p))] [] σ = some (.inl (some (.int (-1 : Int32)), σ))) ∨ ∃ k, k < 5 ∧ AI σ 99 p = nI k ∧ ¬ AI σ 98 p = nI 0 ∧ Run false d 127 0 [some (.ref 17), some (.int (nI p))] [] σ = some (.inl (some (.int (nI (5 * p + k))), σ)) := by
  obtain ⟨d, rfl⟩ := dS hd
  rcases mk_of hI hp with ⟨h1, h2, h3, h4⟩ | ⟨k, n, h1, h2, h3, h4, h5, h6, h7⟩
  · refine Or.inl ⟨h1, h2, ?_⟩
    rw [s127_0]
    simp (disch := omega) only [inbT, cond_true, nI_clamp, h3, z00]
    simp only [oTr, cond_true]
  · refine Or.inr ⟨k, by omega, h3, h7, ?_⟩
    have e : p * 5 + k = 5 * p + k := by omega
    rw [s127_0]
    simp (disch := omega) only [inbT, cond_true, nI_clamp, h6, h4, oeqF, cond_false, nI_mul, nI_add, e]
/-- kilograms of a packet as it is made -/
noncomputable def kgA (σ : PS) (off most p s y : Nat) : Int32 := kgM σ off most p (AI σ 99 p).toNatClampNeg s y
theorem trips_of (hI : IP σ) {n p : Nat} (hn : FI σ 85 30 = nI n) (hn2 : n ≤ 20) (hp : p < n) (hy : y ≤ 40) : ∃ t, 1 ≤ t ∧ t ≤ 50 ∧ AI σ 104 (41 * p + y) = nI t ∧ AI σ 23 (41 * p + y) = nI t := by
  obtain ⟨⟨n', h1, h2, h3, h4⟩, -⟩ := hI
  have : n = n' := (nI_eq (by omega) (by omega)).mp (hn.symm.trans h2)
  subst this
  obtain ⟨h5, -⟩ := h4 (41 * p + y) (by omega)
  obtain ⟨h6, t, h7, h8, h9⟩ := h5 (by omega)
  exact ⟨t, h7, h8, h9, h6.trans h9⟩
theorem ckil {n p : Nat} (hd : 3 ≤ d) (hI : IP σ) (hn : FI σ 85 30 = nI n) (hn2 : n ≤ 20) (hp : p < n) (hs : s ≤ 4) (hy : y ≤ 40) (h : LC LS σ) : ∃ mk, Run false d 127 0 [some (.ref 17), some (.int (nI p))] [] σ = some (.inl (some (.int mk), σ)) ∧ Run false d 54 0 [some (.ref 0), some (.int mk), some (.int (nI s)), some (.int (nI y)), none, none] [] σ = some (.inl (some (.int (kgA σ (numV (clL LS 2 s y) 100) (numV (clL LS 6 0 y) 1) p s y)), σ)) := by
  obtain ⟨t, t1, t2, t3, t4⟩ := trips_of hI hn hn2 hp hy
  rcases c127 (d := d) (by omega) hI (show p < 20 by omega) with ⟨g1, g2, g3⟩ | ⟨k, g0, g1, g2, g3⟩
  · refine ⟨_, g3, ?_⟩
    rw [c54_no (by omega)]
    unfold kgA kgM grM
    rw [obl_t g1, cond_true, kg_0]
  · refine ⟨_, g3, ?_⟩
    rw [c54 hd hI (by omega) g0 hs hy t1 t2 t3 t4 g2 h]
    unfold kgA
    rw [g1, nI_clamp (by omega)]
theorem c214A {n p : Nat} (hd : 3 ≤ d) (hI : IP σ) (hn : FI σ 85 30 = nI n) (hn2 : n ≤ 20) (hp : p < n) (hs : s ≤ 4) (hy : y ≤ 40) (h : LM LS X σ) : Run false d 214 0 [some (.ref 85), some (.int (nI p)), some (.int (AI σ 99 p)), some (.int (nI s)), some (.int (nI y)), none, none, none] [] σ = some (.inl (some (.int (kgA σ (numV (clX LS X 2 s y) 100) (numV (clX LS X 6 0 y) 1) p s y)), σ)) := by
  obtain ⟨t, t1, t2, t3, t4⟩ := trips_of hI hn hn2 hp hy
  unfold kgA
  rcases mk_of hI (show p < 20 by omega) with ⟨h1, h2, h3, h4⟩ | ⟨k, m, h1, h2, h3, h4, h5, h6, h7⟩
  · rw [h2, c214 hd (by omega) (by decide) hs hy h ⟨t, t1, t2, t3⟩, nI_clamp (by decide)]
  · rw [h3, c214 hd (by omega) (by omega) hs hy h ⟨t, t1, t2, t3⟩, nI_clamp (by omega)]
/-- TRUE KILOS, of the first n packets -/
noncomputable def trV (σ : PS) (off most m s y : Nat) : Nat → Int32
  | 0 => nI 0
  | p + 1 => bif obl (AI σ 97 p = nI m) then trV σ off most m s y p + kgA σ off most p s y else trV σ off most m s y p
theorem c216 {n m : Nat} (hd : 4 ≤ d) (hI : IP σ) (hn : FI σ 85 30 = nI n) (hn2 : n ≤ 20) (hs : s ≤ 4) (hy : y ≤ 40) (h : LM LS X σ) : Run false d 216 0 [some (.ref 85), some (.int (nI m)), some (.int (nI s)), some (.int (nI y)), none, none] [] σ = some (.inl (some (.int (trV σ (numV (clX LS X 2 s y) 100) (numV (clX LS X 6 0 y) 1) m s y n)), σ)) := by
  obtain ⟨d, rfl⟩ := dS (show 1 ≤ d by omega)
  rw [s216_0]
  refine (lpU (f := fun j => Run false (d + 1) 216 6 [some (.ref 85), some (.int (nI m)), some (.int (nI s)), some (.int (nI y)), some (.int (trV σ (numV (clX LS X 2 s y) 100) (numV (clX LS X 6 0 y) 1) m s y j)), some (.int (nI j))] [] σ) (n := n) (fun j hj => ?_) 0 (Nat.zero_le _)).trans ?_
  · rw [s216_6]
    simp (disch := omega) only [hn, oleF, cond_false, inbT, cond_true, nI_clamp, nI_add]
    rw [c214A (by omega) hI hn hn2 hj hs hy h, aft_v, s216_43, nI_add]
    show (_ : Option PO) = Run false (d + 1) 216 6 [some (.ref 85), some (.int (nI m)), some (.int (nI s)), some (.int (nI y)), some (.int (bif obl (AI σ 97 j = nI m) then trV σ (numV (clX LS X 2 s y) 100) (numV (clX LS X 6 0 y) 1) m s y j + kgA σ (numV (clX LS X 2 s y) 100) (numV (clX LS X 6 0 y) 1) j s y else trV σ (numV (clX LS X 2 s y) 100) (numV (clX LS X 6 0 y) 1) m s y j)), some (.int (nI (j + 1)))] [] σ
    cases obl (AI σ 97 j = nI m)
    · rw [cond_false, cond_false, nI_0, Int32.add_zero]
    · rfl
  · rw [s216_6, hn, oleT (Nat.le_refl _) (by omega)]
    rfl
/-- the class's loop -/
theorem c13_lp {n m : Nat} (hd : 4 ≤ d) (hI : IP σ) (hn : FI σ 85 30 = nI n) (hn2 : n ≤ 20) (hs : s ≤ 4) (hy : y ≤ 40) (h : LC LS σ) (hc : FI σ 17 0 = nI n) : Run false d 13 19 [some (.ref 0), some (.int (nI m)), some (.int (nI s)), some (.int (nI y)), some (.int (nI 0)), some (.int (nI 0))] [] σ = some (.inl (some (.int (trV σ (numV (clL LS 2 s y) 100) (numV (clL LS 6 0 y) 1) m s y n)), σ)) := by
  obtain ⟨d, rfl⟩ := dS (show 1 ≤ d by omega)
  refine (lpU (f := fun j => Run false (d + 1) 13 19 [some (.ref 0), some (.int (nI m)), some (.int (nI s)), some (.int (nI y)), some (.int (trV σ (numV (clL LS 2 s y) 100) (numV (clL LS 6 0 y) 1) m s y j)), some (.int (nI j))] [] σ) (n := n) (fun j hj => ?_) 0 (Nat.zero_le _)).trans ?_
  · obtain ⟨mk, k1, k2⟩ := ckil (d := d) (by omega) hI hn hn2 hj hs hy h
    rw [s13_19]
    simp (disch := omega) only [hc, oleF, cond_false, inbT, cond_true, nI_clamp, nI_add, (hI.2.1 j (by omega)).1]
    rw [k1, aft_v, s13_57, k2, aft_v, s13_62, nI_add]
    show (_ : Option PO) = Run false (d + 1) 13 19 [some (.ref 0), some (.int (nI m)), some (.int (nI s)), some (.int (nI y)), some (.int (bif obl (AI σ 97 j = nI m) then trV σ (numV (clL LS 2 s y) 100) (numV (clL LS 6 0 y) 1) m s y j + kgA σ (numV (clL LS 2 s y) 100) (numV (clL LS 6 0 y) 1) j s y else trV σ (numV (clL LS 2 s y) 100) (numV (clL LS 6 0 y) 1) m s y j)), some (.int (nI (j + 1)))] [] σ
    cases obl (AI σ 97 j = nI m) <;> rfl
  · rw [s13_19, hc, oleT (Nat.le_refl _) (by omega)]
    rfl
end PK
