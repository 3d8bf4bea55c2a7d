/-! THE PURE PROOFS: the class lays a year out -/
section LK
variable {d y : Nat} {LS : List LAW} {σ : PS}
/-- the year as it is laid out -/
def VW (τ : PS) (M : Nat) (dec : Nat → Nat → Nat) (sm : Nat → Prop) (inn : Nat → Int32) : Prop := FI τ 36 6 = nI M ∧ ∀ m, m < M → (∀ s, s < 5 → AI τ 37 (m * 5 + s) = nI (dec m s)) ∧ AI τ 38 m = b1 (sm m) ∧ AI τ 39 m = inn m
theorem c83 {m s : Nat} {σ : PS} (hd : 1 ≤ d) (hm : m < 10) (hs : s < 5) : Run false d 83 0 [some (.ref 36), some (.int (nI m)), some (.int (nI s))] [] σ = some (.inl (some (.int (AI σ 37 (m * 5 + s))), σ)) := by
  obtain ⟨d, rfl⟩ := dS hd
  rw [s83_0]
  simp (disch := omega) only [nI_mul, nI_add, nI_clamp, inbT, cond_true]
theorem c84 {m : Nat} {f : Nat → Nat} {σ : PS} (hd : 2 ≤ d) (hm : m < 10) (hf : ∀ s, f s ≤ 10000000) (h : ∀ s, s < 5 → AI σ 37 (m * 5 + s) = nI (f s)) : Run false d 84 0 [some (.ref 36), some (.int (nI m)), none, none] [] σ = some (.inl (some (.int (nI (sumN f 5))), σ)) := by
  obtain ⟨d, rfl⟩ := dS (show 1 ≤ d by omega)
  rw [s84_0]
  refine (lpU (f := fun j => Run false (d + 1) 84 4 [some (.ref 36), some (.int (nI m)), some (.int (nI (sumN f j))), some (.int (nI j))] [] σ) (n := 5) (fun j hj => ?_) 0 (Nat.zero_le _)).trans ?_
  · rw [s84_4, oleF (show j < 5 by omega) (by decide), cond_false, c83 (by omega) hm hj, aft_v, s84_16, h j hj, nI_add, nI_add]
    rfl
  · rw [s84_4, oleT (Nat.le_refl _) (by decide), cond_true]
theorem c82 {M : Nat} {σ : PS} (hd : 1 ≤ d) (hM : M ≤ 10) : ∃ τ, Off σ τ ∧ FI τ 36 6 = nI M ∧ (∀ j, j < 50 → AI τ 37 j = nI 0) ∧ Run false d 82 0 [some (.ref 36), some (.int (nI M)), none] [] σ = some (.inl (none, τ)) := by
  obtain ⟨d, rfl⟩ := dS hd
  have e0 : (if (nI 10) < (nI M) then (nI 10) else (nI M)) = nI M := if_neg (nI_nlt hM (by decide))
  obtain ⟨τ, ⟨p1, p2, p3⟩, p4⟩ := lpS (P := fun j τ => Off σ τ ∧ FI τ 36 6 = nI M ∧ ∀ i, i < j → AI τ 37 i = nI 0) (R := fun j τ => Run false (d + 1) 82 12 [some (.ref 36), some (.int (nI M)), some (.int (nI j))] [] τ) (n := 50) (fun j τ hj hp => by
    refine ⟨wAI τ 37 j (nI 0), ⟨off_ai hp.1 rfl, hp.2.1, fun i hi => ?_⟩, ?_⟩
    · rcases Nat.lt_or_ge i j with q | q
      · rw [AI_n (Or.inr (by omega))]; exact hp.2.2 i q
      · rw [show i = j by omega, AI_q]
    · show Run false (d + 1) 82 12 _ [] τ = _
      rw [s82_12, oleF hj (by decide), cond_false, inbT hj (by decide), cond_true, nI_clamp (by omega), nI_add]) 0 (wFI σ 36 6 (nI M)) (Nat.zero_le _) ⟨off_fi off_r rfl, FI_q, fun i hi => by omega⟩
  refine ⟨τ, p1, p2, p3, ?_⟩
  rw [s82_0, e0]
  refine p4.trans ?_
  show Run false (d + 1) 82 12 _ [] τ = _
  rw [s82_12, oleT (Nat.le_refl _) (by decide), cond_true]
/-- what is laid out till the join -/
def VK (σ τ : PS) (M y : Nat) (k : Int32) (j : Nat) : Prop := Off σ τ ∧ FI τ 36 6 = nI M ∧ ∀ m s, m < 10 → s < 5 → AI τ 37 (m * 5 + s) = dclV σ m s y k j
theorem c55_a {nD M j : Nat} {k a3 : Int32} {τ : PS} (hj : j < nD) (hD : ID σ) (hn : FI σ 26 0 = nI nD) (hn2 : nD ≤ 200) (hy : y ≤ 40) (hp : VK σ τ M y k j) : ∃ τ', VK σ τ' M y k (j + 1) ∧ Run false (d + 1) 55 28 [some (.ref 0), some (.int (nI y)), some (.int k), some (.int a3), some (.int (nI j))] [] τ = Run false (d + 1) 55 28 [some (.ref 0), some (.int (nI y)), some (.int k), some (.int a3), some (.int (nI (j + 1)))] [] τ' := by
  obtain ⟨n', h1, h2, h3, h4⟩ := hD
  have : nD = n' := (nI_eq (by omega) (by omega)).mp (hn.symm.trans h3)
  subst this
  obtain ⟨m0, s0, y0, t0, k0, b1, b2, b3, b4, b5, e1, e2, e3, e4, e5, f1, f2, f3, f4⟩ := h4 j hj
  obtain ⟨o, g1, g2⟩ := hp
  have q0 : FI τ 26 0 = nI nD := (offF o 26 0 rfl).trans hn
  have q1 : AI τ 27 j = nI (m0 * 5 + s0) := by rw [offA o 27 rfl, f1]
  have q2 : AI τ 28 j = nI y0 := by rw [offA o 28 rfl, f2]
  have q3 : AI τ 30 j = nI t0 := by rw [offA o 30 rfl, f3]
  have q4 : AI τ 29 j = nI k0 := by rw [offA o 29 rfl, f4]
  have st : Run false (d + 1) 55 28 [some (.ref 0), some (.int (nI y)), some (.int k), some (.int a3), some (.int (nI j))] [] τ = (bif obl (nI y0 = nI y) then (bif obl (k < nI t0) then Run false (d + 1) 55 28 [some (.ref 0), some (.int (nI y)), some (.int k), some (.int a3), some (.int (nI (j + 1)))] [] τ else Run false (d + 1) 55 28 [some (.ref 0), some (.int (nI y)), some (.int k), some (.int a3), some (.int (nI (j + 1)))] [] (wAI τ 37 (m0 * 5 + s0) (nI k0))) else Run false (d + 1) 55 28 [some (.ref 0), some (.int (nI y)), some (.int k), some (.int a3), some (.int (nI (j + 1)))] [] τ) := by
    rw [s55_28]
    simp (disch := omega) only [q0, oleF, cond_false, inbT, cond_true, nI_clamp, nI_add, q1, q2, q3, q4]
  have sd : ∀ m s, dclV σ m s y k (j + 1) = bif obl (nI m0 = nI m) then (bif obl (nI s0 = nI s) then (bif obl (nI y0 = nI y) then (bif obl (k < nI t0) then dclV σ m s y k j else nI k0) else dclV σ m s y k j) else dclV σ m s y k j) else dclV σ m s y k j := by
    intro m s
    show (bif obl (AI σ 105 j = nI m) then _ else _) = _
    rw [e1, e2, e3, e4, e5]
  cases u1 : obl (nI y0 = nI y)
  · refine ⟨τ, ⟨o, g1, fun m s hm hs => ?_⟩, by rw [st, u1, cond_false]⟩
    rw [sd, u1, g2 m s hm hs]
    cases obl (nI m0 = nI m) <;> cases obl (nI s0 = nI s) <;> rfl
  · cases u2 : obl (k < nI t0)
    · refine ⟨wAI τ 37 (m0 * 5 + s0) (nI k0), ⟨off_ai o rfl, g1, fun m s hm hs => ?_⟩, by rw [st, u1, u2, cond_true, cond_false]⟩
      rw [sd, u1, u2]
      by_cases w : m0 = m ∧ s0 = s
      · obtain ⟨rfl, rfl⟩ := w
        rw [AI_q, obl_t rfl, obl_t rfl]; rfl
      · rw [AI_n (Or.inr (by omega)), g2 m s hm hs]
        by_cases w1 : m0 = m
        · rw [oeqT w1, oeqF (show s0 ≠ s from fun e => w ⟨w1, e⟩) (by omega) (by omega)]; rfl
        · rw [oeqF w1 (by omega) (by omega)]; rfl
    · refine ⟨τ, ⟨o, g1, fun m s hm hs => ?_⟩, by rw [st, u1, u2, cond_true, cond_true]⟩
      rw [sd, u1, u2, g2 m s hm hs]
      cases obl (nI m0 = nI m) <;> cases obl (nI s0 = nI s) <;> rfl
theorem IS_off {τ : PS} (h : Off σ τ) (hS : IS σ) : IS τ := by
  unfold IS at hS ⊢
  rw [offF h 85 52 rfl, offF h 31 0 rfl, offF h 85 53 rfl, offF h 31 1 rfl, offA h 33 rfl, offA h 34 rfl, offA h 35 rfl, offA h 114 rfl, offA h 115 rfl, offA h 116 rfl, offA h 32 rfl, offA h 118 rfl]; exact hS
/-- a year laid out -/
theorem c55 {nD M nJ : Nat} {k : Int32} (hd : 4 ≤ d) (hy : y ≤ 40) (hC : LC LS σ) (hD : ID σ) (hn : FI σ 26 0 = nI nD) (hn2 : nD ≤ 200) (hS : IS σ) (hJ : FI σ 31 1 = nI nJ) (hJ2 : nJ ≤ 60) (hM : FI σ 0 1 = nI M) (hM2 : M ≤ 10) : ∃ τ, Off σ τ ∧ VW τ M (dcN σ y k nD) (fun m => sumN (dcN σ y k nD m) 5 < numV (clL LS 5 0 y) 0) (fun m => (inR σ m y nJ).2) ∧ Run false d 55 0 [some (.ref 0), some (.int (nI y)), some (.int k), none, none] [] σ = some (.inl (none, τ)) := by
  obtain ⟨d, rfl⟩ := dS (show 1 ≤ d by omega)
  have hl := num_any (k := 5) (d := 0) (atC_ok (clF_C (k := 5) (s := 0) (y := y) hC)) (by decide)
  have h85 : FI σ 85 39 = nI nD := by
    obtain ⟨n', h1, h2, h3, h4⟩ := hD
    have : nD = n' := (nI_eq (by omega) (by omega)).mp (hn.symm.trans h3)
    rw [this]; exact h2
  obtain ⟨τ1, o1, m1, z1, r1⟩ := c82 (d := d) (M := M) (σ := σ) (by omega) hM2
  obtain ⟨τ2, ⟨o2, m2, z2⟩, r2⟩ := lpS (P := fun j τ => VK σ τ M y k j) (R := fun j τ => Run false (d + 1) 55 28 [some (.ref 0), some (.int (nI y)), some (.int k), some (.int (nI (numV (clL LS 5 0 y) 0))), some (.int (nI j))] [] τ) (n := nD) (fun j τ hj hp => c55_a hj hD hn hn2 hy hp) 0 τ1 (Nat.zero_le _) ⟨o1, m1, fun m s hm hs => z1 _ (by omega)⟩
  have hdc : ∀ m s, dclV σ m s y k nD = nI (dcN σ y k nD m s) := fun m s => (dcN_e hD h85 hn2).1
  obtain ⟨τ3, ⟨o3, m3, z3, w3⟩, r3⟩ := lpS (P := fun j τ => Off σ τ ∧ FI τ 36 6 = nI M ∧ (∀ m s, m < 10 → s < 5 → AI τ 37 (m * 5 + s) = nI (dcN σ y k nD m s)) ∧ ∀ i, i < j → AI τ 38 i = b1 (sumN (dcN σ y k nD i) 5 < numV (clL LS 5 0 y) 0) ∧ AI τ 39 i = (inR σ i y nJ).2) (R := fun j τ => Run false (d + 1) 55 105 [some (.ref 0), some (.int (nI y)), some (.int k), some (.int (nI (numV (clL LS 5 0 y) 0))), some (.int (nI j))] [] τ) (n := M) (fun j τ hj hp => by
    obtain ⟨o, g1, g2, g3⟩ := hp
    have hs5 : sumN (dcN σ y k nD j) 5 ≤ 5 * 10000000 := sumN_le 5 (fun i _ => (dcN_e hD h85 hn2).2)
    have q0 : FI τ 0 1 = nI M := (offF o 0 1 rfl).trans hM
    have k1 := c84 (d := d) (m := j) (f := dcN σ y k nD j) (σ := τ) (by omega) (by omega) (fun s => (dcN_e hD h85 hn2).2) (fun s hs => g2 j s (by omega) hs)
    have kk : ∀ v, Run false d 163 0 [some (.ref 31), some (.int (nI j)), some (.int (nI y)), none, none, none] [] (wAI τ 38 j v) = some (.inl (some (.int (inR σ j y nJ).2), wAI τ 38 j v)) := by
      intro v
      have o' : Off σ (wAI τ 38 j v) := off_ai o rfl
      rw [c163 (n := nJ) (by omega) (IS_off o' hS) ((offF o' 31 1 rfl).trans hJ) hJ2, inR_off o']
    refine ⟨wAI (wAI τ 38 j (b1 (sumN (dcN σ y k nD j) 5 < numV (clL LS 5 0 y) 0))) 39 j (inR σ j y nJ).2, ⟨off_ai (off_ai o rfl) rfl, g1, fun m s hm hs => ?_, fun i hi => ?_⟩, ?_⟩
    · rw [AI_n (Or.inl (by decide)), AI_n (Or.inl (by decide))]; exact g2 m s hm hs
    · rcases Nat.lt_or_ge i j with q | q
      · rw [AI_n (Or.inl (by decide)), AI_n (Or.inr (by omega)), AI_n (Or.inr (by omega))]; exact g3 i q
      · rw [show i = j by omega, AI_n (Or.inl (by decide)), AI_q, AI_q]; exact ⟨rfl, rfl⟩
    · show Run false (d + 1) 55 105 _ [] τ = _
      rw [s55_105, q0, oleF hj (by omega), cond_false, k1, aft_v, s55_132, Olb (by omega) (by omega)]
      by_cases q : sumN (dcN σ y k nD j) 5 < numV (clL LS 5 0 y) 0
      · rw [Nlf q, cond_false, inbT (show j < 10 by omega) (by decide), is01_1, cond_true, cond_true, nI_clamp (by omega), kk, aft_v, s55_161, inbT (show j < 10 by omega) (by decide), cond_true, nI_clamp (by omega), nI_add, b1_t q]
      · rw [Nlt (by omega), cond_true, inbT (show j < 10 by omega) (by decide), is01_0, cond_true, cond_true, nI_clamp (by omega), kk, aft_v, s55_161, inbT (show j < 10 by omega) (by decide), cond_true, nI_clamp (by omega), nI_add, b1_f q]) 0 τ2 (Nat.zero_le _) ⟨o2, m2, fun m s hm hs => (z2 m s hm hs).trans (hdc m s), fun i hi => by omega⟩
  refine ⟨τ3, o3, ⟨m3, fun m hm => ⟨fun s hs => z3 m s (by omega) hs, w3 m hm⟩⟩, ?_⟩
  have e5 : numV (clL LS 5 0 y) 0 = numV (clL LS 5 0 y) 0 := rfl
  have q2 : FI τ2 26 0 = nI nD := (offF o2 26 0 rfl).trans hn
  have q3 : FI τ3 0 1 = nI M := (offF o3 0 1 rfl).trans hM
  rw [s55_0, c100_least (by omega) hy hC, aft_v, s55_13, hM, r1, aft_n, s55_25]
  refine r2.trans ?_
  show Run false (d + 1) 55 28 _ [] τ2 = _
  rw [s55_28, q2, oleT (Nat.le_refl _) (by omega), cond_true]
  refine r3.trans ?_
  show Run false (d + 1) 55 105 _ [] τ3 = _
  rw [s55_105, q3, oleT (Nat.le_refl _) (by omega), cond_true]
end LK
