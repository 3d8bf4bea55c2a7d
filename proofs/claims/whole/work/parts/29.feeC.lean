/-! THE PURE PROOFS: a maker's fee, on both sides -/
section FC
variable {d y M m n : Nat} {LS : List LAW} {X : Option (List CLS)} {σ : PS} {dec : Nat → Nat → Nat} {sm : Nat → Prop} {inn : Nat → Int32}
/-- the fee -/
noncomputable def feV (σ : PS) (o : Nat → Option CLS) (y M m n least : Nat) (dec : Nat → Nat → Nat) : Nat := if sumN (dec m) 5 < least then 0 else feeN o y (dec m) (fun s => sumN (fun o => dec o s) M) (fun s => gsI σ m s n) (nI (lyI σ m n)) 5
/-- the class's, of a year laid out -/
theorem c56_b {υ : PS} {k : Int32} (hd : 5 ≤ d) (hC : LC LS σ) (hP : IP σ) (hn : FI σ 17 0 = nI n) (hn2 : n ≤ 20) (hm : m < M) (hM : M ≤ 10) (hb : ∀ m s, dec m s ≤ 10000000) (h : FE σ υ LS y M m dec sm inn) : ∃ υ', Off σ υ' ∧ Run false d 56 12 [some (.ref 0), some (.int (nI m)), some (.int (nI y)), some (.int k), none] [] υ = some (.inl (some (.long (lN (feV σ (fun s => clL LS 0 s y) y M m n (numV (clL LS 5 0 y) 0) dec))), υ')) := by
  obtain ⟨d, rfl⟩ := dS (show 1 ≤ d by omega)
  have hl := num_any (k := 5) (d := 0) (atC_ok (clF_C (k := 5) (s := 0) (y := y) hC)) (by decide)
  obtain ⟨υ1, ⟨a1, a2, a3, -⟩, r1⟩ := lpS (P := fun j υ' => FE σ υ' LS y M m dec sm inn ∧ FI υ' 43 2 = nI 0 ∧ (∀ s, s < j → AI υ' 45 s = nI (dec m s) ∧ AI υ' 47 s = nI 0) ∧ True) (R := fun j υ' => Run false (d + 1) 56 23 [some (.ref 0), some (.int (nI m)), some (.int (nI y)), some (.int k), some (.int (nI j))] [] υ') (n := 5) (fun j υ' hj hp' => by
    obtain ⟨q1, q2, q3, -⟩ := hp'
    have k2 := c83 (d := d) (m := m) (s := j) (σ := υ') (by omega) (by omega) hj
    rw [(q1.2.1.2 m hm).1 j hj] at k2
    refine ⟨wAI (wAI υ' 45 j (nI (dec m j))) 47 j (nI 0), ⟨FE_47 (FE_45 q1), q2, fun s hs => ?_, trivial⟩, ?_⟩
    · rcases Nat.lt_or_ge s j with w | w
      · rw [AI_n (Or.inl (by decide)), AI_n (Or.inr (by omega)), AI_n (Or.inr (by omega)), AI_n (Or.inl (by decide))]; exact q3 s w
      · rw [show s = j by omega, AI_n (Or.inl (by decide)), AI_q, AI_q]; exact ⟨rfl, rfl⟩
    · show Run false (d + 1) 56 23 _ [] υ' = _
      rw [s56_23, oleF hj (by decide), cond_false, k2, aft_v, s56_48, inbT hj (by decide), cond_true, cond_true, nI_clamp (by omega), nI_add]) 0 (wFI υ 43 2 (nI 0)) (Nat.zero_le _) ⟨FE_l h, FI_q, fun s hs => by omega, trivial⟩
  obtain ⟨υ2, b1', r2⟩ := lpS (P := fun j υ' => FG σ υ' LS y M m dec sm inn (fun s => gsI σ m s j) (lyI σ m j)) (R := fun j υ' => Run false (d + 1) 56 69 [some (.ref 0), some (.int (nI m)), some (.int (nI y)), some (.int k), some (.int (nI j))] [] υ') (n := n) (fun j υ' hj hp' => by
    have e18 : AI υ' 18 j = AI σ 97 j := by rw [offA hp'.1.1 18 rfl]; exact (hP.2.1 j (by omega)).1
    have e17 : FI υ' 17 0 = nI n := (offF hp'.1.1 17 0 rfl).trans hn
    have st : Run false (d + 1) 56 69 [some (.ref 0), some (.int (nI m)), some (.int (nI y)), some (.int k), some (.int (nI j))] [] υ' = bif obl (AI σ 97 j = nI m) then aft false (d + 1) 56 101 [some (.ref 0), some (.int (nI m)), some (.int (nI y)), some (.int k), some (.int (nI j))] [] (Run false d 58 0 [some (.ref 0), some (.int (nI j)), none, none] [] υ') else Run false (d + 1) 56 69 [some (.ref 0), some (.int (nI m)), some (.int (nI y)), some (.int k), some (.int (nI (j + 1)))] [] υ' := by
      rw [s56_69, e17, oleF hj (by omega), cond_false, inbT (show j < 20 by omega) (by decide), cond_true, nI_clamp (by omega), e18, s56_101, nI_add]
    obtain ⟨υ'', k1, k2⟩ := c58 (d := d) (p := j) (by omega) hP (by omega) (lyI_le j) hp'
    cases w : obl (AI σ 97 j = nI m)
    · refine ⟨υ', ?_, by rw [st, w, cond_false]⟩
      have e1 : ∀ s, gsI σ m s (j + 1) = gsI σ m s j := fun s => by
        show (bif obl (AI σ 97 j = nI m) then _ else _) = _
        rw [w]; rfl
      have e2 : lyI σ m (j + 1) = lyI σ m j := by
        show (bif obl (AI σ 97 j = nI m) then _ else _) = _
        rw [w]; rfl
      simp only [e1, e2]
      exact hp'
    · refine ⟨υ'', ?_, by rw [st, w, cond_true, k2, aft_n, s56_101, nI_add]⟩
      have e1 : ∀ s, gsI σ m s (j + 1) = gsI σ m s j + grM σ j (AI σ 99 j).toNatClampNeg s := fun s => by
        show (bif obl (AI σ 97 j = nI m) then _ else _) = _
        rw [w]; rfl
      have e2 : lyI σ m (j + 1) = max (lyI σ m j) (layM σ j (AI σ 99 j).toNatClampNeg) := by
        show (bif obl (AI σ 97 j = nI m) then _ else _) = _
        rw [w]; rfl
      simp only [e1, e2]
      exact k1) 0 υ1 (Nat.zero_le _) ⟨a1, a2, fun s hs => a3 s hs⟩
  have e17 : FI υ2 17 0 = nI n := (offF b1'.1.1 17 0 rfl).trans hn
  have hR : RT υ2 LS y (dec m) (fun s => sumN (fun o => dec o s) M) (fun s => gsI σ m s n) (nI (lyI σ m n)) := by
    refine ⟨b1'.1.2.2.1, b1'.2.1, fun s hs => ⟨sumN_ge (f := fun o => dec o s) M m hm, ?_, (b1'.2.2 s hs).1, (b1'.1.2.2.2.2 s hs).2, (b1'.1.2.2.2.2 s hs).1, (b1'.2.2 s hs).2⟩⟩
    have := sumN_le (f := fun o => dec o s) (b := 10000000) M (fun i _ => hb i s)
    have : M * 10000000 ≤ 10 * 10000000 := Nat.mul_le_mul_right _ hM
    show sumN (fun o => dec o s) M ≤ 100000000
    omega
  obtain ⟨υ3, c1, c2⟩ := c79 (d := d) (by omega) (LC_off b1'.1.1 hC) hR b1'.1.2.2.2.1 hl
  refine ⟨υ3, off_t b1'.1.1 (stk_off c1), ?_⟩
  rw [s56_12]
  refine r1.trans ?_
  show Run false (d + 1) 56 23 _ [] υ1 = _
  rw [s56_23, oleT (Nat.le_refl _) (by decide), cond_true]
  refine r2.trans ?_
  show Run false (d + 1) 56 69 _ [] υ2 = _
  rw [s56_69, e17, oleT (Nat.le_refl _) (by omega), cond_true, c2, aft_v, s56_118]
  rfl
theorem c56 {nD nJ : Nat} {k : Int32} (hd : 6 ≤ d) (hy : y ≤ 40) (hC : LC LS σ) (hP : IP σ) (hn : FI σ 17 0 = nI n) (hn2 : n ≤ 20) (hm : m < M) (hD : ID σ) (hnD : FI σ 26 0 = nI nD) (hnD2 : nD ≤ 200) (hS : IS σ) (hJ : FI σ 31 1 = nI nJ) (hJ2 : nJ ≤ 60) (hM : FI σ 0 1 = nI M) (hM2 : M ≤ 10) : ∃ υ, Off σ υ ∧ Run false d 56 0 [some (.ref 0), some (.int (nI m)), some (.int (nI y)), some (.int k), none] [] σ = some (.inl (some (.long (lN (feV σ (fun s => clL LS 0 s y) y M m n (numV (clL LS 5 0 y) 0) (dcN σ y k nD)))), υ)) := by
  obtain ⟨d, rfl⟩ := dS (show 1 ≤ d by omega)
  have h85 : FI σ 85 39 = nI nD := by
    obtain ⟨n', h1, h2, h3, h4⟩ := id hD
    have : nD = n' := (nI_eq (by omega) (by omega)).mp (hnD.symm.trans h3)
    rw [this]; exact h2
  have hb : ∀ m s, dcN σ y k nD m s ≤ 10000000 := fun m s => (dcN_e hD h85 hnD2).2
  obtain ⟨τ, o1, v1, r1⟩ := c55 (d := d) (k := k) (by omega) hy hC hD hnD hnD2 hS hJ hJ2 hM hM2
  obtain ⟨υ, e1, r2⟩ := c57 (σ := σ) (d := d) (by omega) hy hM2 hm hb (LC_off o1 hC) o1 v1
  obtain ⟨υ', o2, r3⟩ := c56_b (d := d + 1) (k := k) (by omega) hC hP hn hn2 hm hM2 hb e1
  refine ⟨υ', o2, ?_⟩
  rw [s56_0, r1, aft_n, s56_6, r2, aft_n, r3]
theorem nI_z (x : Int32) : x + nI 0 = x := by rw [nI_0, Int32.add_zero]
set_option maxHeartbeats 1000000 in
/-- the model's -/
theorem c224 {k : Int32} (hd : 8 ≤ d) (hy : y ≤ 40) (hM' : LM LS X σ) (hX : DM σ y k M dec) (hn : FI σ 85 30 = nI n) (hn2 : n ≤ 20) (hk5 : ∀ p, p < n → ∃ j, j < 5 ∧ AI σ 99 p = nI j) (hm : m < M) (hM : FI σ 85 29 = nI M) (hM2 : M ≤ 10) : ∃ υ, Stk σ υ ∧ Run false d 224 0 [some (.ref 85), some (.int (nI m)), some (.int (nI y)), some (.int k), none, none, none, none, none, none, none, none, none, none] [] σ = some (.inl (some (.long (lN (feV σ (fun s => clX LS X 0 s y) y M m n (numV (clX LS X 5 0 y) 0) dec))), υ)) := by
  obtain ⟨d, rfl⟩ := dS (show 1 ≤ d by omega)
  have hb := hX.1
  rw [s224_0, c221 (by omega) (show m < M from hm) hy hX hM', aft_v, s224_7, b1_0]
  unfold smP feV
  by_cases q : sumN (dec m) 5 < numV (clX LS X 5 0 y) 0
  · refine ⟨σ, stk_r, ?_⟩
    rw [obl_t q, if_pos q]; rfl
  · rw [obl_f q, if_neg q, Bool.not_false, cond_true]
    -- the layers
    have p1 : Run false (d + 1) 224 18 [some (.ref 85), some (.int (nI m)), some (.int (nI y)), some (.int k), some (.int (nI (lyI σ m 0))), some (.int (nI 0)), none, none, none, none, none, none, none, none] [] σ = Run false (d + 1) 224 18 [some (.ref 85), some (.int (nI m)), some (.int (nI y)), some (.int k), some (.int (nI (lyI σ m n))), some (.int (nI n)), none, none, none, none, none, none, none, none] [] σ := by
      refine lpU (f := fun j => Run false (d + 1) 224 18 [some (.ref 85), some (.int (nI m)), some (.int (nI y)), some (.int k), some (.int (nI (lyI σ m j))), some (.int (nI j)), none, none, none, none, none, none, none, none] [] σ) (n := n) (fun j hj => ?_) 0 (Nat.zero_le _)
      obtain ⟨i, hi, e99⟩ := hk5 j hj
      have l1 := lyI_le (σ := σ) (m := m) j
      have l2 := @layM_le σ j i
      rw [s224_18, hn, oleF hj (by omega), cond_false, inbT (show j < 20 by omega) (by decide), cond_true, cond_true, nI_clamp (by omega), e99, c223 (by omega) (by omega) hi, aft_v, s224_51, Olb (by omega) (by omega), inbT (show j < 20 by omega) (by decide), cond_true, nI_clamp (by omega), e99, c223 (by omega) (by omega) hi, aft_v, s224_69, nI_add]
      show (_ : Option PO) = Run false (d + 1) 224 18 [some (.ref 85), some (.int (nI m)), some (.int (nI y)), some (.int k), some (.int (nI (bif obl (AI σ 97 j = nI m) then max (lyI σ m j) (layM σ j (AI σ 99 j).toNatClampNeg) else lyI σ m j))), some (.int (nI (j + 1))), none, none, none, none, none, none, none, none] [] σ
      rw [e99, nI_clamp (by omega)]
      cases obl (AI σ 97 j = nI m)
      · rfl
      · by_cases w : layM σ j i ≤ lyI σ m j
        · rw [Nlt w, cond_true, cond_true, cond_true, Nat.max_eq_left w]
        · rw [Nlf (by omega), cond_true, cond_false, cond_true, Nat.max_eq_right (by omega)]
    -- the sorts
    have key : ∀ w j υ z8 z9 z10 z11 z12 z13, 5 - j = w → j ≤ 5 → Stk σ υ → ∃ υ', Stk σ υ' ∧ Run false (d + 1) 224 83 [some (.ref 85), some (.int (nI m)), some (.int (nI y)), some (.int k), some (.int (nI (lyI σ m n))), some (.long (lN (feeN (fun s => clX LS X 0 s y) y (dec m) (fun s => sumN (fun o => dec o s) M) (fun s => gsI σ m s n) (nI (lyI σ m n)) j))), none, some (.int (nI j)), z8, z9, z10, z11, z12, z13] [] υ = some (.inl (some (.long (lN (feeN (fun s => clX LS X 0 s y) y (dec m) (fun s => sumN (fun o => dec o s) M) (fun s => gsI σ m s n) (nI (lyI σ m n)) 5))), υ')) := by
      intro w
      induction w with
      | zero =>
        intro j υ z8 z9 z10 z11 z12 z13 hj hj5 ho
        have : j = 5 := by omega
        subst this
        refine ⟨υ, ho, ?_⟩
        rw [s224_83, oleT (Nat.le_refl _) (by decide), cond_true]
      | succ w ih =>
        intro j υ z8 z9 z10 z11 z12 z13 hj hj5 ho
        have hMu := LM_off (stk_off ho) hM'
        have fin : ∀ υ1 z9 z10 z11 z12 z13 (rt : Nat), Stk σ υ1 → rt = rtN (clX LS X 0 j y) y (dec m j) (sumN (fun o => dec o j) M) (gsI σ m j n) (nI (lyI σ m n)) → ∃ υ', Stk σ υ' ∧ (bif obl ((lN 1000) = lN 0) then none else Run false (d + 1) 224 83 [some (.ref 85), some (.int (nI m)), some (.int (nI y)), some (.int k), some (.int (nI (lyI σ m n))), some (.long (lN (feeN (fun s => clX LS X 0 s y) y (dec m) (fun s => sumN (fun o => dec o s) M) (fun s => gsI σ m s n) (nI (lyI σ m n)) j) + (((nI (dec m j)).toInt64 * (nI rt).toInt64) / (lN 1000)))), none, some (.int (nI j + nI 1)), some (.int (nI (dec m j))), z9, z10, z11, z12, z13] [] υ1) = some (.inl (some (.long (lN (feeN (fun s => clX LS X 0 s y) y (dec m) (fun s => sumN (fun o => dec o s) M) (fun s => gsI σ m s n) (nI (lyI σ m n)) 5))), υ')) := by
          intro υ1 z9 z10 z11 z12 z13 rt o1 ert
          have b1' := hb m j
          have b2 : rt ≤ 100000 := by rw [ert]; exact rtN_le
          have b3 : dec m j * rt ≤ 10000000 * 100000 := Nat.mul_le_mul b1' b2
          obtain ⟨υ', k1, k2⟩ := ih (j + 1) υ1 (some (.int (nI (dec m j)))) z9 z10 z11 z12 z13 (by omega) (by omega) o1
          refine ⟨υ', k1, ?_⟩
          rw [LLe (by decide) (by decide), Nbf (by decide), cond_false, nI_l (by omega), nI_l (by omega), lN_mul, lN_quo (by omega) (by decide) (by decide), lN_add, nI_add, ← k2, ert]
          rfl
        have e0 := hX.2 υ (stk_off ho) d (by omega) m j hm (by omega)
        rw [s224_83, oleF (show j < 5 by omega) (by decide), cond_false, e0, aft_v, s224_98, c199_fee (by omega) (by omega) hy hMu, aft_v, s224_108]
        have hA := clX_M (k := 0) (s := j) (y := y) hMu
        cases e1 : mIx LS X 0 j y 11 with
        | none =>
          cases e2 : clX LS X 0 j y with
          | some c => rw [e1, e2] at hA; exact hA.elim
          | none =>
            rw [ixV_n, wmm, cond_true]
            exact fin υ _ _ _ _ _ 100 ho (by rw [e2]; rfl)
        | some ix =>
          cases e2 : clX LS X 0 j y with
          | none => rw [e1, e2] at hA; exact hA.elim
          | some c =>
            rw [e1, e2] at hA
            obtain ⟨a1, a2, a3, a4⟩ := hA
            rw [ixV_s, wnm (by omega), cond_false]
            have s10 : ∀ i, i ≤ M → sumN (fun o => dec o j) i ≤ 100000000 := by
              intro i hi
              have := sumN_le (f := fun o => dec o j) (b := 10000000) i (fun i _ => hb i j)
              have : i * 10000000 ≤ 10 * 10000000 := Nat.mul_le_mul_right _ (by omega)
              omega
            -- the sum of all makers
            have p2 : Run false (d + 1) 224 126 [some (.ref 85), some (.int (nI m)), some (.int (nI y)), some (.int k), some (.int (nI (lyI σ m n))), some (.long (lN (feeN (fun s => clX LS X 0 s y) y (dec m) (fun s => sumN (fun o => dec o s) M) (fun s => gsI σ m s n) (nI (lyI σ m n)) j))), none, some (.int (nI j)), some (.int (nI (dec m j))), some (.int (nI ix)), some (.int (nI 100)), some (.long (lN (sumN (fun o => dec o j) 0))), none, some (.int (nI 0))] [] υ = Run false (d + 1) 224 126 [some (.ref 85), some (.int (nI m)), some (.int (nI y)), some (.int k), some (.int (nI (lyI σ m n))), some (.long (lN (feeN (fun s => clX LS X 0 s y) y (dec m) (fun s => sumN (fun o => dec o s) M) (fun s => gsI σ m s n) (nI (lyI σ m n)) j))), none, some (.int (nI j)), some (.int (nI (dec m j))), some (.int (nI ix)), some (.int (nI 100)), some (.long (lN (sumN (fun o => dec o j) M))), none, some (.int (nI M))] [] υ := by
              refine lpU (f := fun i => Run false (d + 1) 224 126 [some (.ref 85), some (.int (nI m)), some (.int (nI y)), some (.int k), some (.int (nI (lyI σ m n))), some (.long (lN (feeN (fun s => clX LS X 0 s y) y (dec m) (fun s => sumN (fun o => dec o s) M) (fun s => gsI σ m s n) (nI (lyI σ m n)) j))), none, some (.int (nI j)), some (.int (nI (dec m j))), some (.int (nI ix)), some (.int (nI 100)), some (.long (lN (sumN (fun o => dec o j) i))), none, some (.int (nI i))] [] υ) (n := M) (fun i hi => ?_) 0 (Nat.zero_le _)
              have b1' := hb i j
              rw [s224_126, stkF ho 85 29 rfl, hM, oleF hi (by omega), cond_false, hX.2 υ (stk_off ho) d (by omega) i j hi (by omega), aft_v, s224_147, nI_l (by omega), lN_add, nI_add]
              rfl
            have tl : ∀ W, Stk σ W → FI W 85 23 = nI y → FI W 85 24 = nI (dec m j) → FI W 85 25 = nI (dec m j * 100 / sumN (fun o => dec o j) M) → FI W 85 26 = nI 0 → ∃ υ', Stk σ υ' ∧ Run false (d + 1) 224 202 [some (.ref 85), some (.int (nI m)), some (.int (nI y)), some (.int k), some (.int (nI (lyI σ m n))), some (.long (lN (feeN (fun s => clX LS X 0 s y) y (dec m) (fun s => sumN (fun o => dec o s) M) (fun s => gsI σ m s n) (nI (lyI σ m n)) j))), none, some (.int (nI j)), some (.int (nI (dec m j))), some (.int (nI ix)), some (.int (nI 100)), some (.long (lN (sumN (fun o => dec o j) M))), none, some (.int (nI 0))] [] W = some (.inl (some (.long (lN (feeN (fun s => clX LS X 0 s y) y (dec m) (fun s => sumN (fun o => dec o s) M) (fun s => gsI σ m s n) (nI (lyI σ m n)) 5))), υ')) := by
              intro W o1 f1 f2 f3 f4
              obtain ⟨W1, ⟨g1, g2, g3, g4, g5⟩, r1⟩ := lpS (P := fun i W1 => Stk σ W1 ∧ FI W1 85 23 = nI y ∧ FI W1 85 24 = nI (dec m j) ∧ FI W1 85 25 = nI (dec m j * 100 / sumN (fun o => dec o j) M) ∧ FI W1 85 26 = gsI σ m j i) (R := fun i W1 => Run false (d + 1) 224 202 [some (.ref 85), some (.int (nI m)), some (.int (nI y)), some (.int k), some (.int (nI (lyI σ m n))), some (.long (lN (feeN (fun s => clX LS X 0 s y) y (dec m) (fun s => sumN (fun o => dec o s) M) (fun s => gsI σ m s n) (nI (lyI σ m n)) j))), none, some (.int (nI j)), some (.int (nI (dec m j))), some (.int (nI ix)), some (.int (nI 100)), some (.long (lN (sumN (fun o => dec o j) M))), none, some (.int (nI i))] [] W1) (n := n) (fun i W1 hi hp' => by
                obtain ⟨g1, g2, g3, g4, g5⟩ := hp'
                obtain ⟨x, hx, e99⟩ := hk5 i hi
                have eg : grM W1 i x j = grM σ i x j := grM_off (stk_off g1)
                refine ⟨wFI W1 85 26 (gsI σ m j (i + 1)), ⟨stk_fi g1 rfl, ?_, ?_, ?_, FI_q⟩, ?_⟩
                · rw [FI_n (Or.inr (by decide))]; exact g2
                · rw [FI_n (Or.inr (by decide))]; exact g3
                · rw [FI_n (Or.inr (by decide))]; exact g4
                · show Run false (d + 1) 224 202 _ [] W1 = _
                  rw [s224_202, stkF g1 85 30 rfl, hn, oleF hi (by omega), cond_false, inbT (show i < 20 by omega) (by decide), cond_true, cond_true, nI_clamp (by omega), stkA g1 97 rfl, stkA g1 99 rfl, e99, c213 (by omega) (by omega) hx (by omega), aft_v, s224_242, g5, eg, nI_add, nI_z]
                  show (_ : Option PO) = Run false (d + 1) 224 202 [some (.ref 85), some (.int (nI m)), some (.int (nI y)), some (.int k), some (.int (nI (lyI σ m n))), some (.long (lN (feeN (fun s => clX LS X 0 s y) y (dec m) (fun s => sumN (fun o => dec o s) M) (fun s => gsI σ m s n) (nI (lyI σ m n)) j))), none, some (.int (nI j)), some (.int (nI (dec m j))), some (.int (nI ix)), some (.int (nI 100)), some (.long (lN (sumN (fun o => dec o j) M))), none, some (.int (nI (i + 1)))] [] (wFI W1 85 26 (bif obl (AI σ 97 i = nI m) then gsI σ m j i + grM σ i (AI σ 99 i).toNatClampNeg j else gsI σ m j i))
                  rw [e99, nI_clamp (by omega)]
                  cases obl (AI σ 97 i = nI m) <;> rfl) 0 W (Nat.zero_le _) ⟨o1, f1, f2, f3, f4⟩
              have g6 : Stk σ (wFI W1 85 27 (nI (lyI σ m n))) := stk_fi g1 rfl
              have hA2 := clX_M (k := 0) (s := j) (y := y) (LM_off (stk_off g6) hM')
              rw [e1, e2] at hA2
              obtain ⟨W2, o2, r2⟩ := c203 (d := d) (σ := wFI W1 85 27 (nI (lyI σ m n))) (F := (nI y, nI (dec m j), nI (dec m j * 100 / sumN (fun o => dec o j) M), gsI σ m j n, nI (lyI σ m n))) (by omega) a1 rfl hA2.2.1 (a3.2.2.2.2.2.2.1 a4) ⟨by rw [FI_n (Or.inr (by decide))]; exact g2, by rw [FI_n (Or.inr (by decide))]; exact g3, by rw [FI_n (Or.inr (by decide))]; exact g4, by rw [FI_n (Or.inr (by decide))]; exact g5, FI_q⟩
              obtain ⟨υ', k1, k2⟩ := fin W2 (some (.int (nI ix))) (some (.int (nI (clpV (valC (nI y, nI (dec m j), nI (dec m j * 100 / sumN (fun o => dec o j) M), gsI σ m j n, nI (lyI σ m n)) c.2.2.2))))) (some (.long (lN (sumN (fun o => dec o j) M)))) none (some (.int (nI n))) (clpV (valC (nI y, nI (dec m j), nI (dec m j * 100 / sumN (fun o => dec o j) M), gsI σ m j n, nI (lyI σ m n)) c.2.2.2)) (stk_t g6 o2) (by rw [e2]; rfl)
              refine ⟨υ', k1, ?_⟩
              refine r1.trans ?_
              show Run false (d + 1) 224 202 _ [] W1 = _
              rw [s224_202, stkF g1 85 30 rfl, hn, oleT (Nat.le_refl _) (by omega), cond_true, r2, aft_v, s224_268]
              refine Eq.trans ?_ k2
              exact (clp_m (valC (nI y, nI (dec m j), nI (dec m j * 100 / sumN (fun o => dec o j) M), gsI σ m j n, nI (lyI σ m n)) c.2.2.2)).2.2 (fun v => (bif obl ((lN 1000) = lN 0) then none else Run false (d + 1) 224 83 [some (.ref 85), some (.int (nI m)), some (.int (nI y)), some (.int k), some (.int (nI (lyI σ m n))), some (.long (lN (feeN (fun s => clX LS X 0 s y) y (dec m) (fun s => sumN (fun o => dec o s) M) (fun s => gsI σ m s n) (nI (lyI σ m n)) j) + (((nI (dec m j)).toInt64 * v.toInt64) / (lN 1000)))), none, some (.int (nI j + nI 1)), some (.int (nI (dec m j))), some (.int (nI ix)), some (.int v), some (.long (lN (sumN (fun o => dec o j) M))), none, some (.int (nI n))] [] W2))
            have sM := s10 M (Nat.le_refl _)
            have bj := hb m j
            by_cases w0 : sumN (fun o => dec o j) M = 0
            · obtain ⟨υ', k1, k2⟩ := tl (wFI (wFI (wFI (wFI υ 85 23 (nI y)) 85 24 (nI (dec m j))) 85 25 (nI 0)) 85 26 (nI 0)) (stk_fi (stk_fi (stk_fi (stk_fi ho rfl) rfl) rfl) rfl) rfl rfl (by rw [w0, Nat.div_zero]; rfl) rfl
              refine ⟨υ', k1, p2.trans ?_⟩
              rw [s224_126, stkF ho 85 29 rfl, hM, oleT (Nat.le_refl _) (by omega), cond_true, lgEq, LLe (by omega) (by decide), Nbt w0, cond_true, k2]
            · obtain ⟨υ', k1, k2⟩ := tl (wFI (wFI (wFI (wFI υ 85 23 (nI y)) 85 24 (nI (dec m j))) 85 25 (nI (dec m j * 100 / sumN (fun o => dec o j) M))) 85 26 (nI 0)) (stk_fi (stk_fi (stk_fi (stk_fi ho rfl) rfl) rfl) rfl) rfl rfl rfl rfl
              refine ⟨υ', k1, p2.trans ?_⟩
              have e4 : (((lN 100) * (nI (dec m j)).toInt64) / (lN (sumN (fun o => dec o j) M))).toInt32 = nI (dec m j * 100 / sumN (fun o => dec o j) M) := by
                rw [nI_l (by omega), lN_mul, lN_quo (by omega) (by omega) (by omega), lN_i, Nat.mul_comm]
              rw [s224_126, stkF ho 85 29 rfl, hM, oleT (Nat.le_refl _) (by omega), cond_true, lgEq, LLe (by omega) (by decide), Nbf w0, cond_false, cond_false, e4, k2]
    obtain ⟨υ', k1, k2⟩ := key 5 0 σ none none none none none none rfl (Nat.zero_le _) stk_r
    refine ⟨υ', k1, ?_⟩
    refine p1.trans ?_
    rw [s224_18, hn, oleT (Nat.le_refl _) (by omega), cond_true]
    exact k2
end FC
