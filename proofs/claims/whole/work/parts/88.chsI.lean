/-! THE PURE PROOFS: the cheapest makes: the model's search -/
noncomputable def StM (σ τ : PS) (m n : Nat) : Prop := FrP F2x A3x σ τ ∧ FI τ 85 47 = nI (ChN σ m n) ∧ FI τ 85 45 = nI m ∧ (∀ i, i < ChN σ m n → AI τ 111 i = nI (pkX σ m n i) ∧ AI τ 112 i = AI σ 99 (pkX σ m n i)) ∧ (∀ p, (∀ i, i < ChN σ m n → pkX σ m n i ≠ p) → AI τ 99 p = AI σ 99 p) ∧ ∀ i, i < ChN σ m n → ∃ k, k < 5 ∧ AI τ 99 (pkX σ m n i) = nI k
noncomputable def RwM (σ τ : PS) (m n : Nat) (row : Rw) (i : Nat) : Prop := ∀ j, j < i → AI τ 99 (pkX σ m n j) = nI (row j)
def BsM (τ : PS) (C : Nat) (S : SSt) : Prop := match S with
  | none => FL τ 85 48 = -1
  | some (t, r) => FL τ 85 48 = lN t ∧ t < 2 ^ 62 ∧ ∀ j, j < C → AI τ 113 j = nI (r j)
section CN
variable {d y m n i p k M nW nD : Nat} {LS : List LAW} {σ τ υ : PS} {row : Rw} {S : SSt}
theorem cnL (hP : IP σ) (hp : p < 20) (hk : k < 5) (hy : y ≤ 40) : (AI σ 101 (5 * p + k)).toInt64 * (AI σ 102 (41 * p + y)).toInt64 = lN (cnE σ y p k) := by
  obtain ⟨-, -, h3, -, h5⟩ := hP
  obtain ⟨e1, a, -, ha, e2⟩ := h5 (5 * p + k) (by omega)
  obtain ⟨e3, -, s, b, hb, hs, e4, -⟩ := h3 (41 * p + y) (by omega)
  have e5 : cnE σ y p k = a * s := by
    unfold cnE
    rw [e2, e4, nI_clamp (by omega), nI_clamp (by omega)]
  rw [e5, e2, e4, nI_l (by omega), nI_l (by omega), lN_mul]
theorem stM_5 (hP : IP σ) (hn2 : n ≤ 20) (h : StM σ τ m n) : ∀ p, p < n → ∃ j, j < 5 ∧ AI τ 99 p = nI j := by
  intro p hp
  by_cases w : ∃ i, i < ChN σ m n ∧ pkX σ m n i = p
  · obtain ⟨i, hi, rfl⟩ := w
    exact h.2.2.2.2.2 i hi
  · rw [h.2.2.2.2.1 p (fun i hi e => w ⟨i, hi, e⟩)]
    exact mk5 hP hn2 p hp
theorem stM_stk (h : StM σ τ m n) (g : Stk τ υ) : StM σ υ m n := by
  refine ⟨frP_t h.1 (frP_stk g (fun o k x => Or.inl x) (fun o j x => Or.inl x)), (stkF g 85 47 rfl).trans h.2.1, (stkF g 85 45 rfl).trans h.2.2.1, fun i hi => by rw [stkA g 111 rfl, stkA g 112 rfl]; exact h.2.2.2.1 i hi, fun p hp => by rw [stkA g 99 rfl]; exact h.2.2.2.2.1 p hp, fun i hi => by rw [stkA g 99 rfl]; exact h.2.2.2.2.2 i hi⟩
theorem rwM_stk (h : RwM σ τ m n row i) (g : Stk τ υ) : RwM σ υ m n row i := fun j hj => by rw [stkA g 99 rfl]; exact h j hj
theorem bsM_stk {C : Nat} (h : BsM τ C S) (g : Stk τ υ) : BsM υ C S := by
  cases S with
  | none => exact (stkL g 85 48).trans h
  | some x => exact ⟨(stkL g 85 48).trans h.1, h.2.1, fun j hj => by rw [stkA g 113 rfl]; exact h.2.2 j hj⟩
theorem fe_same (h0 : StM σ τ m n) (hR : RwM σ τ m n row (ChN σ m n)) (hr : ∀ j, j < ChN σ m n → row j < 5) (hm : m < M) : feV τ (fun s => clX LS none 0 s y) y M m n (numV (clX LS none 5 0 y) 0) (dcT (dcN σ y (nI nW) nD) (fun s => if s < 5 then owX σ LS y m n row s else 0) m) = feX σ LS y m n (numV (clL LS 5 0 y) 0) (fun s => sumN (fun o => dcN σ y (nI nW) nD o s) M - dcN σ y (nI nW) nD m s) row := by
  have hMd : MdR σ τ m n row := ⟨h0.2.2.2.2.1, hR⟩
  have e1 : ∀ s, s < 5 → dcT (dcN σ y (nI nW) nD) (fun s => if s < 5 then owX σ LS y m n row s else 0) m m s = owX σ LS y m n row s := fun s hs => by
    unfold dcT
    rw [if_pos rfl]
    exact if_pos hs
  have e2 : sumN (dcT (dcN σ y (nI nW) nD) (fun s => if s < 5 then owX σ LS y m n row s else 0) m m) 5 = sumN (owX σ LS y m n row) 5 := sumN_c 5 e1
  have e3 : ∀ s, s < 5 → sumN (fun o => dcT (dcN σ y (nI nW) nD) (fun s => if s < 5 then owX σ LS y m n row s else 0) m o s) M = owX σ LS y m n row s + (sumN (fun o => dcN σ y (nI nW) nD o s) M - dcN σ y (nI nW) nD m s) := fun s hs => by
    have a := (dcT_s (dec := dcN σ y (nI nW) nD) (own := fun s => if s < 5 then owX σ LS y m n row s else 0) (s := s) (m := m) M).1 hm
    have c := sumN_ge (f := fun o => dcN σ y (nI nW) nD o s) M m hm
    rw [if_pos hs] at a
    have c' : dcN σ y (nI nW) nD m s ≤ sumN (fun o => dcN σ y (nI nW) nD o s) M := c
    omega
  unfold feV feX
  rw [e2]
  by_cases w : sumN (owX σ LS y m n row) 5 < numV (clL LS 5 0 y) 0
  · rw [if_pos w]
    exact if_pos w
  · rw [if_neg w]
    refine (if_neg w).trans ?_
    unfold feeN
    refine sumN_c 5 (fun s hs => ?_)
    dsimp only
    rw [e1 s hs, e3 s hs, gs_eq h0.1 hMd hr, ly_eq h0.1 hMd hr]
    rfl
theorem m230 (hM' : LM LS none σ) (hC : LC LS σ) (hP : IP σ) (hD : ID σ) (hnD : FI σ 85 39 = nI nD) (hnD2 : nD ≤ 200) (hn : FI σ 85 30 = nI n) (hn2 : n ≤ 20) (hy : y ≤ 40) (hm : m < M) (hMM : FI σ 85 29 = nI M) (hM2 : M ≤ 10) (hW : FI σ 85 1 = nI nW) : ∀ f i row S τ d, i + f = ChN σ m n → 10 + f ≤ d → StM σ τ m n → RwM σ τ m n row i → BsM τ (ChN σ m n) S → (∀ j, j < i → row j < mkX σ m n j) → ∃ τ', StM σ τ' m n ∧ RwM σ τ' m n row i ∧ BsM τ' (ChN σ m n) (srch (mkX σ m n) (bnX σ LS y m n) (toX σ LS y m n (numV (clL LS 5 0 y) 0) (fun s => sumN (fun o => dcN σ y (nI nW) nD o s) M - dcN σ y (nI nW) nD m s)) f i row S) ∧ Run false d 230 0 [some (.ref 85), some (.int (nI i)), some (.int (nI m)), some (.int (nI y)), none, none, none] [] τ = some (.inl (none, τ')) := by
  have hC5 : ChN σ m n ≤ 5 := chL_5 n
  have htr := fun p hp => tr_IR (p := p) hP hn hn2 hp hy
  intro f
  induction f with
  | zero =>
    intro i row S τ d hi hd h0 hR hB hr
    obtain ⟨d, rfl⟩ := dS (show 1 ≤ d by omega)
    have : i = ChN σ m n := by omega
    subst this
    have hr5 : ∀ j, j < ChN σ m n → row j < 5 := fun j hj => by have := hr j hj; have := mk_b hP hn2 hj; omega
    have hK := fun s hs => KK_b (s := s) hC hP hn hn2 hy hs hr5
    have hMd : MdR σ τ m n row := ⟨h0.2.2.2.2.1, hR⟩
    have hX := dm_try (nW := nW) (M := M) hy h0.1 hM' hD hnD hnD2 hn hn2 h0.2.2.1 hm hM2 hMd hr5 hK (stM_5 hP hn2 h0) htr
    have e30 : FI τ 85 30 = nI n := (h0.1.2.2.1 85 30 (f2_n (by omega))).trans hn
    have e29 : FI τ 85 29 = nI M := (h0.1.2.2.1 85 29 (f2_n (by omega))).trans hMM
    have e1W : FI τ 85 1 = nI nW := (h0.1.2.2.1 85 1 (f2_n (by omega))).trans hW
    obtain ⟨τ1, k1, k2⟩ := c224 (d := d) (y := y) (m := m) (n := n) (M := M) (k := nI nW) (by omega) hy (LM_fr h0.1 hM') hX e30 hn2 (stM_5 hP hn2 h0) hm e29 hM2
    rw [fe_same h0 hR hr5 hm] at k2
    generalize hoth : (fun s => sumN (fun o => dcN σ y (nI nW) nD o s) M - dcN σ y (nI nW) nD m s) = oth at k2 ⊢
    generalize hlst : numV (clL LS 5 0 y) 0 = least at k2 ⊢
    have h1 := stM_stk h0 k1
    have hR1 := rwM_stk hR k1
    have hB1 := bsM_stk hB k1
    have hco : coN (coX σ y m n) row (ChN σ m n) ≤ ChN σ m n * 1000000 := co_b hP hn2 hy hr5 _ (Nat.le_refl _)
    have hfe : feX σ LS y m n least oth row ≤ 5 * 1000000000 := by
      unfold feX
      split
      · exact Nat.zero_le _
      · exact fee_b (fun s hs => (hK s hs).1)
    have eto : toX σ LS y m n least oth row = feX σ LS y m n least oth row + coN (coX σ y m n) row (ChN σ m n) := Nat.add_comm _ _
    have hto : toX σ LS y m n least oth row < 2 ^ 62 := by omega
    -- the coins
    have p1 : Run false (d + 1) 230 23 [some (.ref 85), some (.int (nI (ChN σ m n))), some (.int (nI m)), some (.int (nI y)), some (.long (lN (feX σ LS y m n least oth row + coN (coX σ y m n) row 0))), none, some (.int (nI 0))] [] τ1 = Run false (d + 1) 230 23 [some (.ref 85), some (.int (nI (ChN σ m n))), some (.int (nI m)), some (.int (nI y)), some (.long (lN (feX σ LS y m n least oth row + coN (coX σ y m n) row (ChN σ m n)))), none, some (.int (nI (ChN σ m n)))] [] τ1 := by
      refine lpU (f := fun j => Run false (d + 1) 230 23 [some (.ref 85), some (.int (nI (ChN σ m n))), some (.int (nI m)), some (.int (nI y)), some (.long (lN (feX σ LS y m n least oth row + coN (coX σ y m n) row j))), none, some (.int (nI j))] [] τ1) (n := ChN σ m n) (fun j hj => ?_) 0 (Nat.zero_le _)
      have hp := (pkX_lt hj).1
      have hrj := hr5 j hj
      have e111 := (h1.2.2.2.1 j hj).1
      have e99 := hR1 j hj
      have ec : (AI τ1 101 (5 * pkX σ m n j + row j)).toInt64 * (AI τ1 102 (41 * pkX σ m n j + y)).toInt64 = lN (cnE σ y (pkX σ m n j) (row j)) := by
        rw [fr_A h1.1 (o := 101) (by omega), fr_A h1.1 (o := 102) (by omega)]
        exact cnL hP (by omega) hrj hy
      rw [s230_23, h1.2.1, oleF hj (by omega), cond_false, inbT (show j < 5 by omega) (by decide), cond_true, cond_true, cond_true, nI_clamp (by omega), e111, inbT (show pkX σ m n j < 20 by omega) (by decide), cond_true, nI_clamp (by omega), e99, nI_mul, nI_add, inbT (show 5 * pkX σ m n j + row j < 100 by omega) (by decide), cond_true, nI_mul, nI_add, inbT (show 41 * pkX σ m n j + y < 820 by omega) (by decide), cond_true, nI_clamp (by omega), nI_clamp (by omega), ec, lN_add, nI_add, Nat.add_assoc]
      rfl
    -- kept as the best
    obtain ⟨τ2, ⟨q1, q2, q3, q4⟩, r2⟩ := lpS (P := fun s τ' => FrP F2x (fun o j => o = 113) τ1 τ' ∧ FL τ' 85 48 = lN (toX σ LS y m n least oth row) ∧ (∀ j, j < s → AI τ' 113 j = nI (row j)) ∧ ∀ o k, FI τ' o k = FI τ1 o k) (R := fun s τ' => Run false (d + 1) 230 119 [some (.ref 85), some (.int (nI (ChN σ m n))), some (.int (nI m)), some (.int (nI y)), some (.long (lN (toX σ LS y m n least oth row))), none, some (.int (nI s))] [] τ') (n := ChN σ m n) (fun s τ' hs hp' => by
      obtain ⟨q1, q2, q3, q4⟩ := hp'
      have hp := (pkX_lt hs).1
      have e111 : AI τ' 111 s = nI (pkX σ m n s) := by rw [q1.2.2.2.2 111 s (by omega)]; exact (h1.2.2.2.1 s hs).1
      have e99 : AI τ' 99 (pkX σ m n s) = nI (row s) := by rw [q1.2.2.2.2 99 _ (by omega)]; exact hR1 s hs
      refine ⟨wAI τ' 113 s (nI (row s)), ⟨frP_ai q1 rfl, q2, fun j hj => ?_, fun o k => q4 o k⟩, ?_⟩
      · rcases Nat.lt_or_ge j s with w | w
        · rw [AI_n (by omega)]; exact q3 j w
        · rw [show j = s by omega, AI_q]
      · show Run false (d + 1) 230 119 _ [] τ' = _
        rw [s230_119, q4 85 47, h1.2.1, oleF hs (by omega), cond_false, inbT (show s < 5 by omega) (by decide), cond_true, nI_clamp (by omega), e111, inbT (show pkX σ m n s < 20 by omega) (by decide), cond_true, cond_true, nI_clamp (by omega), e99, nI_add]) 0 (wFL τ1 85 48 (lN (toX σ LS y m n least oth row))) (Nat.zero_le _) ⟨frP_fl frP_r (Or.inr ⟨rfl, by omega⟩) (by decide), FL_q, fun j hj => absurd hj (Nat.not_lt_zero j), fun o k => rfl⟩
    have r3 : Run false (d + 1) 230 119 [some (.ref 85), some (.int (nI (ChN σ m n))), some (.int (nI m)), some (.int (nI y)), some (.long (lN (toX σ LS y m n least oth row))), none, some (.int (nI 0))] [] (wFL τ1 85 48 (lN (toX σ LS y m n least oth row))) = some (.inl (none, τ2)) := by
      refine r2.trans ?_
      show Run false (d + 1) 230 119 _ [] τ2 = _
      rw [s230_119, q4 85 47, h1.2.1, oleT (Nat.le_refl _) (by omega), cond_true]
    have s2 : StM σ τ2 m n := ⟨frP_t h1.1 (frP_m q1 (fun o k h => h) (fun o j h => Or.inr (Or.inr (by omega)))), (q4 85 47).trans h1.2.1, (q4 85 45).trans h1.2.2.1, fun i hi => by rw [q1.2.2.2.2 111 i (by omega), q1.2.2.2.2 112 i (by omega)]; exact h1.2.2.2.1 i hi, fun p hp => by rw [q1.2.2.2.2 99 p (by omega)]; exact h1.2.2.2.2.1 p hp, fun i hi => by rw [q1.2.2.2.2 99 _ (by omega)]; exact h1.2.2.2.2.2 i hi⟩
    have rR2 : RwM σ τ2 m n row (ChN σ m n) := fun j hj => by rw [q1.2.2.2.2 99 _ (by omega)]; exact hR1 j hj
    have fin : BsM τ2 (ChN σ m n) (some (toX σ LS y m n least oth row, row)) := ⟨q2, hto, q3⟩
    have p2 : Run false (d + 1) 230 0 [some (.ref 85), some (.int (nI (ChN σ m n))), some (.int (nI m)), some (.int (nI y)), none, none, none] [] τ = Run false (d + 1) 230 23 [some (.ref 85), some (.int (nI (ChN σ m n))), some (.int (nI m)), some (.int (nI y)), some (.long (lN (toX σ LS y m n least oth row))), none, some (.int (nI (ChN σ m n)))] [] τ1 := by
      rw [s230_0, h0.2.1, oeqT rfl, cond_true, e1W, k2, aft_v, s230_18, eto]
      exact p1
    rw [p2]
    cases S with
    | none =>
      have f1 : FL τ1 85 48 = -1 := hB1
      refine ⟨τ2, s2, rR2, fin, ?_⟩
      rw [s230_23, h1.2.1, oleT (Nat.le_refl _) (by omega), cond_true, f1, lgLt, m1L, cond_true, r3]
    | some x =>
      obtain ⟨t, r⟩ := x
      obtain ⟨f1, f2, f3⟩ := id hB1
      by_cases w : toX σ LS y m n least oth row < t
      · refine ⟨τ2, s2, rR2, ?_, ?_⟩
        · have e4 : srch (mkX σ m n) (bnX σ LS y m n) (toX σ LS y m n least oth) 0 (ChN σ m n) row (some (t, r)) = some (toX σ LS y m n least oth row, row) := if_pos w
          rw [e4]; exact fin
        · rw [s230_23, h1.2.1, oleT (Nat.le_refl _) (by omega), cond_true, f1, lgLt, LLt (by omega) (by omega), Nlt (Nat.zero_le _), Bool.not_true, cond_false, lgLt, LLt (by omega) (by omega), Nlf w, Bool.not_false, cond_true, r3]
      · refine ⟨τ1, h1, hR1, ?_, ?_⟩
        · have e4 : srch (mkX σ m n) (bnX σ LS y m n) (toX σ LS y m n least oth) 0 (ChN σ m n) row (some (t, r)) = some (t, r) := if_neg w
          rw [e4]; exact hB1
        · rw [s230_23, h1.2.1, oleT (Nat.le_refl _) (by omega), cond_true, f1, lgLt, LLt (by omega) (by omega), Nlt (Nat.zero_le _), Bool.not_true, cond_false, lgLt, LLt (by omega) (by omega), Nlt (by omega), Bool.not_true, cond_false]
  | succ f ih =>
    generalize hoth : (fun s => sumN (fun o => dcN σ y (nI nW) nD o s) M - dcN σ y (nI nW) nD m s) = oth at ih ⊢
    generalize hlst : numV (clL LS 5 0 y) 0 = least at ih ⊢
    intro i row S τ d hi hd h0 hR hB hr
    obtain ⟨d, rfl⟩ := dS (show 1 ≤ d by omega)
    have hiC : i < ChN σ m n := by omega
    have hM5 := mk_b hP hn2 hiC
    have hp := (pkX_lt hiC).1
    obtain ⟨K, e98, -, hK5⟩ := mk5_of hP (show pkX σ m n i < 20 by omega)
    have eM : mkX σ m n i = K := by unfold mkX; rw [e98, nI_clamp (by omega)]
    obtain ⟨τ2, ⟨q1, q2, q3⟩, r2⟩ := lpS (P := fun k τ' => StM σ τ' m n ∧ RwM σ τ' m n row i ∧ BsM τ' (ChN σ m n) (itN (fun k S => bif bnX σ LS y m n i k then S else srch (mkX σ m n) (bnX σ LS y m n) (toX σ LS y m n least oth) f (i + 1) (updR row i k) S) k S)) (R := fun k τ' => Run false (d + 1) 230 165 [some (.ref 85), some (.int (nI i)), some (.int (nI m)), some (.int (nI y)), some (.int (nI (pkX σ m n i))), some (.int (nI k)), none] [] τ') (n := K) (fun k τ' hk hp' => by
      obtain ⟨q1, q2, q3⟩ := hp'
      have a98 : AI τ' 98 (pkX σ m n i) = nI K := by rw [fr_A q1.1 (o := 98) (by omega)]; exact e98
      have hne : ∀ j, j < ChN σ m n → j ≠ i → pkX σ m n j ≠ pkX σ m n i := fun j hj hji e => hji (chL_in (ow := owP σ m) (n := n) hj hiC e)
      have s1 : StM σ (wAI τ' 99 (pkX σ m n i) (nI k)) m n := by
        refine ⟨frP_ai q1.1 (Or.inr (Or.inl rfl)), q1.2.1, q1.2.2.1, fun j hj => ?_, fun p hpp => ?_, fun j hj => ?_⟩
        · rw [AI_n (by omega), AI_n (by omega)]; exact q1.2.2.2.1 j hj
        · rw [AI_n (Or.inr (fun e => hpp i hiC e.symm))]; exact q1.2.2.2.2.1 p hpp
        · by_cases w : j = i
          · subst w; exact ⟨k, by omega, AI_q⟩
          · rw [AI_n (Or.inr (hne j hj w))]; exact q1.2.2.2.2.2 j hj
      have rR1 : RwM σ (wAI τ' 99 (pkX σ m n i) (nI k)) m n (updR row i k) (i + 1) := fun j hj => by
        by_cases w : j = i
        · subst w; rw [AI_q, updR_q]
        · rw [AI_n (Or.inr (hne j (by omega) w)), updR_n w]; exact q2 j (by omega)
      have bB1 : BsM (wAI τ' 99 (pkX σ m n i) (nI k)) (ChN σ m n) (itN (fun k S => bif bnX σ LS y m n i k then S else srch (mkX σ m n) (bnX σ LS y m n) (toX σ LS y m n least oth) f (i + 1) (updR row i k) S) k S) := by
        revert q3
        generalize itN (fun k S => bif bnX σ LS y m n i k then S else srch (mkX σ m n) (bnX σ LS y m n) (toX σ LS y m n least oth) f (i + 1) (updR row i k) S) k S = S'
        intro q3
        cases S' with
        | none => exact q3
        | some x => exact ⟨q3.1, q3.2.1, fun j hj => by rw [AI_n (by omega)]; exact q3.2.2 j hj⟩
      obtain ⟨τ1, k1, k2⟩ := c228 (d := d) (σ := wAI τ' 99 (pkX σ m n i) (nI k)) (p := pkX σ m n i) (k := k) (by omega) (by omega) (by omega) hy (LM_fr s1.1 hM')
      have eb : obl (b1 (mwB (wAI τ' 99 (pkX σ m n i) (nI k)) LS (pkX σ m n i) k y 0) = nI 0) = !bnX σ LS y m n i k := by
        rw [b1_0, mwB_fr s1.1]
        unfold bnX
        rw [propext (bn_same (y := y) hP (show pkX σ m n i < 20 by omega) (show k < 5 by omega) (by rw [e98]; exact fun q => by have := (nI_eq (by omega) (by decide)).mp q; omega) hM'.2.2.1)]
      have st : Run false (d + 1) 230 165 [some (.ref 85), some (.int (nI i)), some (.int (nI m)), some (.int (nI y)), some (.int (nI (pkX σ m n i))), some (.int (nI k)), none] [] τ' = bif !bnX σ LS y m n i k then aft false (d + 1) 230 207 [some (.ref 85), some (.int (nI i)), some (.int (nI m)), some (.int (nI y)), some (.int (nI (pkX σ m n i))), some (.int (nI k)), none] [] (Run false d 230 0 [some (.ref 85), some (.int (nI (i + 1))), some (.int (nI m)), some (.int (nI y)), none, none, none] [] τ1) else Run false (d + 1) 230 165 [some (.ref 85), some (.int (nI i)), some (.int (nI m)), some (.int (nI y)), some (.int (nI (pkX σ m n i))), some (.int (nI (k + 1))), none] [] τ1 := by
        rw [s230_165, inbT (show pkX σ m n i < 20 by omega) (by decide), cond_true, cond_true, nI_clamp (by omega), a98, oleF hk (by omega), cond_false, k2, aft_v, s230_195, eb, nI_add, s230_207, nI_add]
      cases w : bnX σ LS y m n i k
      · obtain ⟨τ3, g1, g2, g3, g4⟩ := ih (i + 1) (updR row i k) _ τ1 d (by omega) (by omega) (stM_stk s1 k1) (rwM_stk rR1 k1) (bsM_stk bB1 k1) (fun j hj => by
          by_cases v : j = i
          · subst v; rw [updR_q]; omega
          · rw [updR_n v]; exact hr j (by omega))
        refine ⟨τ3, ⟨g1, fun j hj => ?_, ?_⟩, ?_⟩
        · rw [g2 j (by omega), updR_n (by omega)]
        · show BsM τ3 (ChN σ m n) (bif bnX σ LS y m n i k then _ else _)
          rw [w, cond_false]; exact g3
        · rw [st, w, Bool.not_false, cond_true, g4, aft_n, s230_207, nI_add]
      · refine ⟨τ1, ⟨stM_stk s1 k1, fun j hj => ?_, ?_⟩, ?_⟩
        · rw [rwM_stk rR1 k1 j (by omega), updR_n (by omega)]
        · show BsM τ1 (ChN σ m n) (bif bnX σ LS y m n i k then _ else _)
          rw [w, cond_true]; exact bsM_stk bB1 k1
        · rw [st, w, Bool.not_true, cond_false]) 0 τ (Nat.zero_le _) ⟨h0, hR, hB⟩
    refine ⟨τ2, q1, q2, ?_, ?_⟩
    · show BsM τ2 (ChN σ m n) (itN _ (mkX σ m n i) S)
      rw [eM]; exact q3
    · have a98 : AI τ2 98 (pkX σ m n i) = nI K := by rw [fr_A q1.1 (o := 98) (by omega)]; exact e98
      rw [s230_0, h0.2.1, oeqF (by omega) (by omega) (by omega), cond_false, inbT (show i < 5 by omega) (by decide), cond_true, nI_clamp (by omega), (h0.2.2.2.1 i hiC).1]
      refine r2.trans ?_
      show Run false (d + 1) 230 165 _ [] τ2 = _
      rw [s230_165, inbT (show pkX σ m n i < 20 by omega) (by decide), cond_true, cond_true, nI_clamp (by omega), a98, oleT (Nat.le_refl _) (by omega), cond_true]
end CN
