/-! THE PURE PROOFS: the cheapest makes: the model, whole -/
section CE
variable {d y m n i p k M nW nD least : Nat} {LS : List LAW} {σ τ υ : PS} {row : Rw} {S : SSt} {oth : Nat → Nat}
/-! what is looked for depends on the packets alone -/
def EqP (σ τ : PS) : Prop := ∀ o, 97 ≤ o → o ≤ 104 → AI τ o = AI σ o
theorem ow_e (h : EqP σ τ) : owP τ m = owP σ m := by unfold owP; rw [h 97 (by decide) (by decide)]
theorem ch_e (h : EqP σ τ) : chP τ m n = chP σ m n := by unfold chP; rw [ow_e h]
theorem pk_e (h : EqP σ τ) : pkX τ m n i = pkX σ m n i := by unfold pkX; rw [ch_e h]
theorem cN_e (h : EqP σ τ) : ChN τ m n = ChN σ m n := by unfold ChN; rw [ch_e h]
theorem gr_e {s : Nat} (h : EqP σ τ) : grM τ p k s = grM σ p k s := by unfold grM; rw [h 98 (by decide) (by decide), h 100 (by decide) (by decide)]
theorem la_e (h : EqP σ τ) : layM τ p k = layM σ p k := by
  have : (fun s => grM τ p k s) = fun s => grM σ p k s := funext fun s => gr_e h
  unfold layM; rw [this]
theorem kE_e {s : Nat} (h : EqP σ τ) : kE τ LS y s p k = kE σ LS y s p k := by
  unfold kE kgM
  rw [gr_e h, h 102 (by decide) (by decide), h 103 (by decide) (by decide), h 104 (by decide) (by decide)]
theorem md_e (h : EqP σ τ) : mdN τ p = mdN σ p := by unfold mdN; rw [h 99 (by decide) (by decide)]
theorem mk_e (h : EqP σ τ) : mkX τ m n = mkX σ m n := by
  funext i
  unfold mkX; rw [pk_e h, h 98 (by decide) (by decide)]
theorem bn_e (h : EqP σ τ) : bnX τ LS y m n = bnX σ LS y m n := by
  funext i k
  unfold bnX bnG layG; rw [pk_e h, h 100 (by decide) (by decide)]
theorem co_e (h : EqP σ τ) : coX τ y m n = coX σ y m n := by
  funext i k
  unfold coX cnE; rw [pk_e h, h 101 (by decide) (by decide), h 102 (by decide) (by decide)]
theorem kB_e {s : Nat} (h : EqP σ τ) : kBs τ LS y m s = kBs σ LS y m s := by
  have : (fun p => kE τ LS y s p (mdN τ p)) = fun p => kE σ LS y s p (mdN σ p) := funext fun p => by rw [kE_e h, md_e h]
  unfold kBs; rw [ow_e h, this]
theorem gB_e {s : Nat} (h : EqP σ τ) : gBs τ m s = gBs σ m s := by
  have : (fun p => grM τ p (mdN τ p) s) = fun p => grM σ p (mdN σ p) s := funext fun p => by rw [gr_e h, md_e h]
  unfold gBs; rw [ow_e h, this]
theorem lB_e (h : EqP σ τ) : lBs τ m = lBs σ m := by
  have : (fun p => layM τ p (mdN τ p)) = fun p => layM σ p (mdN σ p) := funext fun p => by rw [la_e h, md_e h]
  unfold lBs; rw [ow_e h, this]
theorem KK_e {s : Nat} (h : EqP σ τ) : KKx τ LS y m n s row = KKx σ LS y m n s row := by
  have : (fun i => kE τ LS y s (pkX τ m n i) (row i)) = fun i => kE σ LS y s (pkX σ m n i) (row i) := funext fun i => by rw [pk_e h, kE_e h]
  funext j
  unfold KKx; rw [kB_e h, this]
theorem GG_e {s : Nat} (h : EqP σ τ) : GGx τ m n s row = GGx σ m n s row := by
  have : (fun i => grM τ (pkX τ m n i) (row i) s) = fun i => grM σ (pkX σ m n i) (row i) s := funext fun i => by rw [pk_e h, gr_e h]
  funext j
  unfold GGx; rw [gB_e h, this]
theorem LL_e (h : EqP σ τ) : LLx τ m n row = LLx σ m n row := by
  have : (fun i => layM τ (pkX τ m n i) (row i)) = fun i => layM σ (pkX σ m n i) (row i) := funext fun i => by rw [pk_e h, la_e h]
  funext j
  unfold LLx; rw [lB_e h, this]
theorem ox_e (h : EqP σ τ) : owX τ LS y m n row = owX σ LS y m n row := by
  funext s
  unfold owX; rw [KK_e h, cN_e h]
theorem to_e (h : EqP σ τ) : toX τ LS y m n least oth = toX σ LS y m n least oth := by
  funext row
  have : (fun s => GGx τ m n s row (ChN τ m n)) = fun s => GGx σ m n s row (ChN σ m n) := funext fun s => by rw [GG_e h, cN_e h]
  unfold toX feX
  rw [co_e h, ox_e h, this, LL_e h, cN_e h]
theorem chL_5s {ow : Nat → Bool} {j : Nat} (h : ¬ (chL ow j).length < 5) : ∀ k, chL ow (j + k) = chL ow j := by
  intro k
  induction k with
  | zero => rfl
  | succ k ih =>
    show (if ow (j + k) = true ∧ (chL ow (j + k)).length < 5 then _ else chL ow (j + k)) = _
    rw [ih, if_neg (fun x => h x.2)]
/-- the model lays out -/
theorem m231_52 {a3 : Int32} (hP : IP σ) (hn : FI σ 85 30 = nI n) (hn2 : n ≤ 20) : ∀ w j τ, n - j = w → j ≤ n → FrP F2x A3x σ τ → (∀ p, AI τ 99 p = AI σ 99 p) → FI τ 85 47 = nI (chP σ m j).length → (∀ i, i < (chP σ m j).length → AI τ 111 i = nI ((chP σ m j).getD i 0) ∧ AI τ 112 i = AI σ 99 ((chP σ m j).getD i 0)) → ∃ j' τ', FrP F2x A3x σ τ' ∧ (∀ p, AI τ' 99 p = AI σ 99 p) ∧ FI τ' 85 47 = nI (ChN σ m n) ∧ (∀ i, i < ChN σ m n → AI τ' 111 i = nI (pkX σ m n i) ∧ AI τ' 112 i = AI σ 99 (pkX σ m n i)) ∧ Run false (d + 1) 231 52 [some (.ref 85), some (.int (nI m)), some (.int (nI y)), some (.int a3), some (.int (nI j))] [] τ = aft false (d + 1) 231 145 [some (.ref 85), some (.int (nI m)), some (.int (nI y)), some (.int a3), some (.int (nI j'))] [] (Run false d 230 0 [some (.ref 85), some (.int (nI 0)), some (.int (nI m)), some (.int (nI y)), none, none, none] [] (wFI (wFL τ' 85 48 (-1)) 85 45 (nI m))) := by
  intro w
  induction w with
  | zero =>
    intro j τ hw hj h1 h2 h3 h4
    have : j = n := by omega
    subst this
    have e30 : FI τ 85 30 = nI j := (h1.2.2.1 85 30 (f2_n (by omega))).trans hn
    refine ⟨j, τ, h1, h2, h3, h4, ?_⟩
    rw [s231_52, e30, oleT (Nat.le_refl _) (by omega), cond_true]
  | succ w ih =>
    intro j τ hw hj h1 h2 h3 h4
    have e30 : FI τ 85 30 = nI n := (h1.2.2.1 85 30 (f2_n (by omega))).trans hn
    have l5 : (chP σ m j).length ≤ 5 := chL_5 j
    have a97 : AI τ 97 j = AI σ 97 j := by rw [fr_A h1 (o := 97) (by omega)]
    by_cases v : (chP σ m j).length < 5
    · have st : Run false (d + 1) 231 52 [some (.ref 85), some (.int (nI m)), some (.int (nI y)), some (.int a3), some (.int (nI j))] [] τ = bif owP σ m j then Run false (d + 1) 231 52 [some (.ref 85), some (.int (nI m)), some (.int (nI y)), some (.int a3), some (.int (nI (j + 1)))] [] (wFI (wAI (wAI τ 111 (chP σ m j).length (nI j)) 112 (chP σ m j).length (AI σ 99 j)) 85 47 (nI ((chP σ m j).length + 1))) else Run false (d + 1) 231 52 [some (.ref 85), some (.int (nI m)), some (.int (nI y)), some (.int a3), some (.int (nI (j + 1)))] [] τ := by
        have eo : obl (AI σ 97 j = nI m) = owP σ m j := rfl
        rw [s231_52, e30, oleF (by omega) (by omega), cond_false, h3, oleF v (by decide), cond_false, inbT (show j < 20 by omega) (by decide), cond_true, nI_clamp (by omega), a97, eo, inbT v (by decide), cond_true, cond_true, cond_true, nI_clamp (by omega), nI_add, nI_add, h2]
      cases u : owP σ m j
      · have e1 : chP σ m (j + 1) = chP σ m j := chP_0 (by rw [u]; simp)
        rw [st, u, cond_false]
        exact ih (j + 1) τ (by omega) (by omega) h1 h2 (by rw [e1]; exact h3) (by rw [e1]; exact h4)
      · have e1 := chP_1 u v
        rw [st, u, cond_true]
        refine ih (j + 1) _ (by omega) (by omega) (frP_fi (frP_ai (frP_ai h1 (Or.inr (Or.inr (by omega)))) (Or.inr (Or.inr (by omega)))) (Or.inr ⟨rfl, by omega⟩)) (fun p => by rw [AI_ff, AI_n (by omega), AI_n (by omega)]; exact h2 p) (by rw [e1, List.length_append]; exact FI_q) (fun i hi => ?_)
        rw [e1] at hi ⊢
        rw [List.length_append] at hi
        have hi' : i < (chP σ m j).length + 1 := hi
        rw [AI_ff, AI_ff]
        by_cases x : i < (chP σ m j).length
        · rw [getD_L x, AI_n (by omega), AI_n (by omega), AI_n (by omega), AI_n (by omega)]; exact h4 i x
        · have : i = (chP σ m j).length := by omega
          subst this
          rw [getD_R, AI_n (by omega), AI_q, AI_q]; exact ⟨rfl, rfl⟩
    · have e1 : chP σ m n = chP σ m j := by
        have := chL_5s (ow := owP σ m) v (n - j)
        rw [show j + (n - j) = n by omega] at this
        exact this
      refine ⟨j, τ, h1, h2, ?_, fun i hi => ?_, ?_⟩
      · unfold ChN; rw [e1]; exact h3
      · unfold ChN at hi
        unfold pkX
        rw [e1] at hi ⊢; exact h4 i hi
      · rw [s231_52, e30, oleF (by omega) (by omega), cond_false, h3, oleT (by omega) (by omega), cond_true]
/-- the model gives the makes back -/
theorem m231_145 {a3 : Int32} {j : Nat} (hb45 : FI σ 85 45 = -1) (hn2 : n ≤ 20) (h : StM σ τ m n) : ∃ τ', Off σ τ' ∧ FI τ' 85 47 = nI (ChN σ m n) ∧ FL τ' 85 48 = FL τ 85 48 ∧ (∀ i, AI τ' 113 i = AI τ 113 i) ∧ Run false (d + 1) 231 145 [some (.ref 85), some (.int (nI m)), some (.int (nI y)), some (.int a3), some (.int (nI j))] [] τ = Run false (d + 1) 231 153 [some (.ref 85), some (.int (nI m)), some (.int (nI y)), some (.int a3), some (.int (nI (ChN σ m n)))] [] τ' := by
  have hC5 : ChN σ m n ≤ 5 := chL_5 n
  obtain ⟨τ2, ⟨q1, q2, q3, q4, q5, q6⟩, r2⟩ := lpS (P := fun s τ' => FrP F2x A3x σ τ' ∧ (FI τ' 85 47 = nI (ChN σ m n) ∧ FI τ' 85 45 = -1) ∧ FL τ' 85 48 = FL τ 85 48 ∧ (∀ i, i < ChN σ m n → AI τ' 111 i = nI (pkX σ m n i) ∧ AI τ' 112 i = AI σ 99 (pkX σ m n i)) ∧ (∀ i, AI τ' 113 i = AI τ 113 i) ∧ ∀ p, (∀ i, s ≤ i → i < ChN σ m n → pkX σ m n i ≠ p) → AI τ' 99 p = AI σ 99 p) (R := fun s τ' => Run false (d + 1) 231 153 [some (.ref 85), some (.int (nI m)), some (.int (nI y)), some (.int a3), some (.int (nI s))] [] τ') (n := ChN σ m n) (fun s τ' hs hp' => by
    obtain ⟨q1, q2, q3, q4, q5, q6⟩ := hp'
    have hp := (pkX_lt hs).1
    refine ⟨wAI τ' 99 (pkX σ m n s) (AI σ 99 (pkX σ m n s)), ⟨frP_ai q1 (Or.inr (Or.inl rfl)), q2, q3, fun i hi => by rw [AI_n (by omega), AI_n (by omega)]; exact q4 i hi, fun i => by rw [AI_n (by omega)]; exact q5 i, fun p hpp => ?_⟩, ?_⟩
    · by_cases w : p = pkX σ m n s
      · subst w; exact AI_q
      · rw [AI_n (Or.inr w)]
        refine q6 p (fun i h1 h2 => ?_)
        by_cases v : i = s
        · subst v; exact fun e => w e.symm
        · exact hpp i (by omega) h2
    · show Run false (d + 1) 231 153 _ [] τ' = _
      rw [s231_153, q2.1, oleF hs (by omega), cond_false, inbT (show s < 5 by omega) (by decide), cond_true, cond_true, nI_clamp (by omega), (q4 s hs).1, (q4 s hs).2, inbT (show pkX σ m n s < 20 by omega) (by decide), cond_true, nI_clamp (by omega), nI_add]) 0 (wFI τ 85 45 (-1)) (Nat.zero_le _) ⟨frP_fi h.1 (Or.inr ⟨rfl, by omega⟩), ⟨by rw [FI_n (by omega)]; exact h.2.1, FI_q⟩, rfl, h.2.2.2.1, fun i => rfl, fun p hpp => h.2.2.2.2.1 p (fun i hi => hpp i (Nat.zero_le _) hi)⟩
  have e99 : AI τ2 99 = AI σ 99 := funext fun p => q6 p (fun i h1 h2 => absurd h2 (by omega))
  refine ⟨τ2, ⟨q1.1, fun o k q => ⟨?_, ?_⟩, fun o q => ⟨?_, q1.2.1 o⟩⟩, q2.1, q3, q5, ?_⟩
  · by_cases w : o = 85 ∧ k = 45
    · obtain ⟨rfl, rfl⟩ := w; exact q2.2.trans hb45.symm
    · refine q1.2.2.1 o k ?_
      rintro (x | ⟨rfl, x⟩)
      · have := sk_sc x
        rw [q] at this; cases this
      · have : k = 47 ∨ k = 48 := by omega
        rcases this with rfl | rfl <;> cases q
  · refine q1.2.2.2.1 o k ?_
    rintro ⟨x | ⟨rfl, x⟩, x45⟩
    · have := sk_sc x
      rw [q] at this; cases this
    · have : k = 47 ∨ k = 48 := by omega
      rcases this with rfl | rfl <;> cases q
  · by_cases w : o = 99
    · subst w; exact e99
    · funext j
      refine q1.2.2.2.2 o j ?_
      rintro (x | x | x)
      · have := skA_sc x
        rw [q] at this; cases this
      · exact w x
      · have : o = 111 ∨ o = 112 ∨ o = 113 := by omega
        rcases this with rfl | rfl | rfl <;> cases q
  · rw [s231_145]
    exact r2
end CE
