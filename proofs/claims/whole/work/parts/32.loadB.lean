/-! THE PURE PROOFS: a load comes in -/
theorem mx_n {p1 p2 p3 p4 : Nat} (h1 : p1 ≤ 100) (h2 : p2 ≤ 100) (h3 : p3 ≤ 100) (h4 : p4 ≤ 100) (h : ¬ p1 + p2 + p3 + p4 ≤ 100) : ¬ IR 0 100 (nI 100 - nI p1 - nI p2 - nI p3 - nI p4) := by
  rintro ⟨n, -, hn, e⟩
  have e2 : nI 100 = nI (n + p4 + p3 + p2 + p1) := by
    rw [← nI_add, ← nI_add, ← nI_add, ← nI_add, ← e, Int32.sub_add_cancel, Int32.sub_add_cancel, Int32.sub_add_cancel, Int32.sub_add_cancel]
  have := (nI_eq (by omega) (by omega)).mp e2
  omega
theorem mx_t {p1 p2 p3 p4 : Nat} (h : p1 + p2 + p3 + p4 ≤ 100) : nI 100 - nI p1 - nI p2 - nI p3 - nI p4 = nI (100 - p1 - p2 - p3 - p4) := by
  rw [nI_sub (by omega), nI_sub (by omega), nI_sub (by omega), nI_sub (by omega)]
theorem c105 {d n p : Nat} {σ : PS} {a1 a2 : Int32} (hd : 1 ≤ d) (hn : FI σ 60 0 = nI n) (hn2 : n < 60) (hp : p ≤ 100) : Run false d 105 0 [some (.ref 60), some (.int a1), some (.int a2), some (.int (nI p))] [] σ = some (.inl (some (.int (nI n)), wFI (wAI (wAI (wAI σ 63 n a1) 61 n a2) 62 n (nI (grdN p))) 60 0 (nI (n + 1)))) := by
  obtain ⟨d, rfl⟩ := dS hd
  rw [s105_0]
  simp (disch := omega) only [hn, oltT, cond_true, inbT, nI_clamp, nI_add, nI_s1]
  unfold grdN
  by_cases q1 : p ≤ 5
  · rw [oltF q1 (by omega), if_pos q1]; rfl
  · rw [oltT (show 5 < p by omega) (by omega), if_neg q1, cond_true]
    by_cases q2 : p ≤ 15
    · rw [oltF q2 (by omega), if_pos q2]; rfl
    · rw [oltT (show 15 < p by omega) (by omega), if_neg q2, cond_true]
      by_cases q3 : p ≤ 40
      · rw [oltF q3 (by omega), if_pos q3]; rfl
      · rw [oltT (show 40 < p by omega) (by omega), if_neg q3, cond_true]
theorem c105_f {d n : Nat} {σ : PS} {a1 a2 a3 : Int32} (hd : 1 ≤ d) (hn : FI σ 60 0 = nI n) (hn2 : ¬ n < 60) (hn3 : n ≤ 60) : Run false d 105 0 [some (.ref 60), some (.int a1), some (.int a2), some (.int a3)] [] σ = some (.inl (some (.int (-1 : Int32)), σ)) := by
  obtain ⟨d, rfl⟩ := dS hd
  rw [s105_0, hn, oltF (by omega) (by omega)]
  rfl
theorem oB (k p u : Nat) (hk : k ≤ 20000) (hp : p ≤ 100) : k * p < 2 ^ 31 ∧ k * p / 100 * (100 - u) < 2 ^ 31 := by
  have h1 : k * p ≤ 20000 * 100 := Nat.mul_le_mul hk hp
  have h2 : k * p / 100 ≤ 20000 := by omega
  have h3 : k * p / 100 * (100 - u) ≤ 20000 * 100 := Nat.mul_le_mul h2 (by omega)
  omega
theorem eo {k p u : Nat} (hk : k ≤ 20000) (hp : p ≤ 100) (hu : u ≤ 50) : nI k * nI p / nI 100 * (nI 100 - nI u) / nI 100 = nI (outN k p u) := by
  obtain ⟨h1, h2⟩ := oB k p u hk hp
  rw [nI_mul, nI_quo h1 (by decide), nI_sub (by omega), nI_mul, nI_quo h2 (by decide)]
  rfl
theorem c106 {d l s : Nat} {σ : PS} {v : Int32} (hd : 1 ≤ d) (hl : l < 60) (hs : s < 5) : Run false d 106 0 [some (.ref 60), some (.int (nI l)), some (.int (nI s)), some (.int v)] [] σ = some (.inl (none, wAI σ 64 (5 * l + s) v)) := by
  obtain ⟨d, rfl⟩ := dS hd
  have e : l * 5 + s = 5 * l + s := by omega
  rw [s106_0]
  simp (disch := omega) only [inbT, cond_true, nI_clamp, nI_mul, nI_add, e]
/-- the state behind a load, on the class's side, on the model's -/
def ldC (σ : PS) (n y k p1 p2 p3 p4 p5 u : Nat) (a1 : Int32) : PS := wAI (wAI (wAI (wAI (wAI (wFI (wAI (wAI (wAI σ 63 n a1) 61 n (nI y)) 62 n (nI (grdN p5))) 60 0 (nI (n + 1))) 64 (5 * n + 0) (nI (outN k p1 u))) 64 (5 * n + 1) (nI (outN k p2 u))) 64 (5 * n + 2) (nI (outN k p3 u))) 64 (5 * n + 3) (nI (outN k p4 u))) 64 (5 * n + 4) (nI (outN k p5 u))
def ldM (σ : PS) (n y k p1 p2 p3 p4 p5 u : Nat) (a1 : Int32) : PS := wFI (wAI (wAI (wAI (wAI (wAI (wAI (wAI (wAI (wAI σ 122 n a1) 123 n (nI y)) 124 n (nI k)) 125 (5 * n) (nI p1)) 125 (5 * n + 1) (nI p2)) 125 (5 * n + 2) (nI p3)) 125 (5 * n + 3) (nI p4)) 125 (5 * n + 4) (nI p5)) 126 n (nI u)) 85 62 (nI (n + 1))
theorem c27_b {d n y k p1 p2 p3 p4 p5 u : Nat} {σ : PS} {a1 : Int32} {z9 : Option Value} (hd : 1 ≤ d) (hn : FI σ 60 0 = nI n) (hn2 : n < 60) (hy : FI σ 0 0 = nI y) (hk : k ≤ 20000) (h1 : p1 ≤ 100) (h2 : p2 ≤ 100) (h3 : p3 ≤ 100) (h4 : p4 ≤ 100) (h5 : p5 ≤ 100) (hu : u ≤ 50) : Run false (d + 1) 27 76 [some (.ref 0), some (.int a1), some (.int (nI k)), some (.int (nI p1)), some (.int (nI p2)), some (.int (nI p3)), some (.int (nI p4)), some (.int (nI u)), some (.int (nI p5)), z9] [] σ = some (.inl (some (.int (nI n)), ldC σ n y k p1 p2 p3 p4 p5 u a1)) := by
  have e0 : obl (nI 100 = nI 0) = false := oeqF (by decide) (by decide) (by decide)
  rw [s27_76, hy, c105 hd hn hn2 h5, aft_v, s27_90, oleT (Nat.zero_le _) (by omega), cond_true, e0, cond_false, cond_false, eo hk h1 hu, c106 hd hn2 (by decide), aft_n,
    s27_124, e0, cond_false, cond_false, eo hk h2 hu, c106 hd hn2 (by decide), aft_n,
    s27_150, e0, cond_false, cond_false, eo hk h3 hu, c106 hd hn2 (by decide), aft_n,
    s27_176, e0, cond_false, cond_false, eo hk h4 hu, c106 hd hn2 (by decide), aft_n,
    s27_202, e0, cond_false, cond_false, eo hk h5 hu, c106 hd hn2 (by decide), aft_n, s27_228]
  rfl
theorem c27_f {d n : Nat} {σ : PS} {a1 a2 a3 a4 a5 a6 a7 a8 : Int32} {z9 : Option Value} (hd : 1 ≤ d) (hn : FI σ 60 0 = nI n) (hn2 : ¬ n < 60) (hn3 : n ≤ 60) : Run false (d + 1) 27 76 [some (.ref 0), some (.int a1), some (.int a2), some (.int a3), some (.int a4), some (.int a5), some (.int a6), some (.int a7), some (.int a8), z9] [] σ = some (.inl (some (.int (-1 : Int32)), σ)) := by
  rw [s27_76, c105_f hd hn hn2 hn3, aft_v, s27_90, w0m, cond_false]
theorem c245_b {d n y k p1 p2 p3 p4 p5 u : Nat} {σ : PS} {a1 a8 : Int32} (hn : FI σ 85 62 = nI n) (hn2 : n < 60) (hy : FI σ 85 1 = nI y) (hm : nI 100 - nI p1 - nI p2 - nI p3 - nI p4 = nI p5) : Run false (d + 1) 245 104 [some (.ref 85), some (.int a1), some (.int (nI k)), some (.int (nI p1)), some (.int (nI p2)), some (.int (nI p3)), some (.int (nI p4)), some (.int (nI u)), some (.int a8)] [.int (nI 1)] σ = some (.inl (some (.int (nI n)), ldM σ n y k p1 p2 p3 p4 p5 u a1)) := by
  rw [s245_104, hm, hy, hn, z10, cond_false, oeqF (show n ≠ 60 by omega) (by omega) (by decide), cond_false]
  simp (disch := omega) only [inbT, cond_true, nI_clamp, nI_mul, nI_add, nI_s1]
  rfl
theorem c245_f {d n : Nat} {σ : PS} {a1 a2 a3 a4 a5 a6 a7 a8 : Int32} (hn : FI σ 85 62 = nI n) (hn2 : ¬ n < 60) (hn3 : n ≤ 60) : Run false (d + 1) 245 104 [some (.ref 85), some (.int a1), some (.int a2), some (.int a3), some (.int a4), some (.int a5), some (.int a6), some (.int a7), some (.int a8)] [.int (nI 1)] σ = some (.inl (some (.int (-1 : Int32)), σ)) := by
  rw [s245_104, hn, z10, cond_false, oeqT (show n = 60 by omega)]
  rfl
theorem ld_I {σ : PS} {n y k p1 p2 p3 p4 p5 u t : Nat} {z : Int64} (hI : Inv σ) (hn : FI σ 85 62 = nI n) (hn2 : n < 60) (hy : y ≤ 40) (hk1 : 1 ≤ k) (hk : k ≤ 20000) (h1 : p1 ≤ 100) (h2 : p2 ≤ 100) (h3 : p3 ≤ 100) (h4 : p4 ≤ 100) (h5 : p5 ≤ 100) (hu : u ≤ 50) (ht : t < 6) : Inv (ldM (wFI (wAL (ldC σ n y k p1 p2 p3 p4 p5 u (nI t)) 145 0 z) 85 0 (nI 0)) n y k p1 p2 p3 p4 p5 u (nI t)) := by
  obtain ⟨g0, g1, g2, g3, g4, ⟨nL, nQ, hL, hQ, eL, eLc, eQ, eQc, hLo, hNo, eFg⟩, g6, g7, g8, g9⟩ := @Inv_o σ z hI
  have : n = nL := (nI_eq (by omega) (by omega)).mp (hn.symm.trans eL)
  subst this
  refine ⟨g0, g1, g2, g3, g4, ⟨n + 1, nQ, by omega, hQ, FI_q, rfl, eQ, eQc, fun j hj => ?_, fun j hj => ?_, eFg⟩, g6, g7, g8, g9⟩
  · unfold ldM ldC
    rcases Nat.lt_or_ge j n with q | q
    · obtain ⟨t, yy, k', u', p, b1, b2, b3, b4, b5, f1, f2, f3, f4, f5, f6, f7, f8⟩ := hLo j q
      refine ⟨t, yy, k', u', p, b1, b2, b3, b4, b5, ?_⟩
      simp (disch := omega) only [AI_q, AI_n, AI_ff, AI_la]
      refine ⟨f1, f2, f3, f4, f5, f6, f7, fun s hs => ?_⟩
      simp (disch := omega) only [AI_q, AI_n, AI_ff, AI_la]
      exact f8 s hs
    · have : j = n := by omega
      subst this
      refine ⟨t, y, k, u, fun s => if s = 0 then p1 else if s = 1 then p2 else if s = 2 then p3 else if s = 3 then p4 else p5, ht, hy, hk1, hk, hu, ?_⟩
      simp (disch := omega) only [AI_q, AI_n, AI_ff, AI_la]
      refine ⟨trivial, trivial, trivial, trivial, trivial, trivial, rfl, fun s hs => ?_⟩
      have hs5 : s = 0 ∨ s = 1 ∨ s = 2 ∨ s = 3 ∨ s = 4 := by omega
      rcases hs5 with rfl | rfl | rfl | rfl | rfl
      · refine ⟨h1, ?_⟩
        simp (disch := omega) only [Nat.add_zero, AI_q, AI_n, AI_ff, AI_la]
        exact ⟨rfl, rfl⟩
      · refine ⟨h2, ?_⟩
        simp (disch := omega) only [AI_q, AI_n, AI_ff, AI_la]
        exact ⟨rfl, rfl⟩
      · refine ⟨h3, ?_⟩
        simp (disch := omega) only [AI_q, AI_n, AI_ff, AI_la]
        exact ⟨rfl, rfl⟩
      · refine ⟨h4, ?_⟩
        simp (disch := omega) only [AI_q, AI_n, AI_ff, AI_la]
        exact ⟨rfl, rfl⟩
      · refine ⟨h5, ?_⟩
        simp (disch := omega) only [AI_q, AI_n, AI_ff, AI_la]
        exact ⟨rfl, rfl⟩
  · obtain ⟨n1, ⟨n2, m2, m3⟩, n3⟩ := hNo j hj
    exact ⟨n1, ⟨n2, by omega, m3⟩, n3⟩
theorem c245_0 {d : Nat} {σ : PS} {a1 a2 a3 a4 a5 a6 a7 a8 : Int32} : Run false (d + 1) 245 104 [some (.ref 85), some (.int a1), some (.int a2), some (.int a3), some (.int a4), some (.int a5), some (.int a6), some (.int a7), some (.int a8)] [.int (nI 0)] σ = some (.inl (some (.int (nI 0)), σ)) := by
  rw [s245_104, z00, cond_true]
