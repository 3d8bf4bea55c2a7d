/-! THE PURE PROOFS: the cheapest makes: the class's search, whole -/
section CT
variable {d y m n i p k least : Nat} {LS : List LAW} {σ τ υ : PS} {oth : Nat → Nat} {row : Rw} {S : SSt}
theorem m1L : obl ((-1 : Int64) < lN 0) = true := obl_t (by decide +kernel)
theorem c74 (hd : 1 ≤ d) (hS : StC σ υ LS y m n least oth) (hR : RwC σ υ LS y m n row (ChN σ m n)) (hK : ∀ s, s < 5 → owX σ LS y m n row s ≤ 10000000 ∧ KKx σ LS y m n s row (ChN σ m n) = nI (owX σ LS y m n row s)) (hO : ∀ s, oth s ≤ 90000000) : ∃ υ', StC σ υ' LS y m n least oth ∧ RwC σ υ' LS y m n row (ChN σ m n) ∧ FL υ' 48 1 = FL υ 48 1 ∧ (∀ j, AI υ' 50 j = AI υ 50 j) ∧ RT υ' LS y (owX σ LS y m n row) (fun s => owX σ LS y m n row s + oth s) (fun s => GGx σ m n s row (ChN σ m n)) (nI (LLx σ m n row (ChN σ m n))) ∧ Run false d 74 0 [some (.ref 48), some (.ref 43), none] [] υ = some (.inl (none, υ')) := by
  obtain ⟨d, rfl⟩ := dS hd
  have hC5 : ChN σ m n ≤ 5 := chL_5 n
  obtain ⟨υ2, ⟨q1, q2, q3, q4, q5⟩, r2⟩ := lpS (P := fun s υ' => Off υ υ' ∧ (∀ o k, ¬ (o = 43 ∧ k = 2) → FI υ' o k = FI υ o k) ∧ (FL υ' 48 1 = FL υ 48 1 ∧ FI υ' 43 2 = nI (LLx σ m n row (ChN σ m n))) ∧ (∀ s', s' < s → AI υ' 45 s' = nI (owX σ LS y m n row s') ∧ AI υ' 47 s' = GGx σ m n s' row (ChN σ m n)) ∧ ∀ o j, o ≠ 45 → o ≠ 47 → AI υ' o j = AI υ o j) (R := fun s υ' => Run false (d + 1) 74 15 [some (.ref 48), some (.ref 43), some (.int (nI s))] [] υ') (n := 5) (fun s υ' hs hp' => by
    obtain ⟨q1, q2, q3, q4, q5⟩ := hp'
    have e48 : FI υ' 48 0 = nI (ChN σ m n) := (q2 48 0 (by omega)).trans hS.2.1
    have a57 : AI υ' 57 (5 * ChN σ m n + s) = nI (owX σ LS y m n row s) := by
      rw [q5 57 _ (by omega) (by omega), (hR.2.1 s hs _ (Nat.le_refl _)).1]; exact (hK s hs).2
    have a58 : AI υ' 58 (5 * ChN σ m n + s) = GGx σ m n s row (ChN σ m n) := by
      rw [q5 58 _ (by omega) (by omega)]; exact (hR.2.1 s hs _ (Nat.le_refl _)).2
    have e5 : ChN σ m n * 5 + s = 5 * ChN σ m n + s := by omega
    refine ⟨wAI (wAI υ' 45 s (nI (owX σ LS y m n row s))) 47 s (GGx σ m n s row (ChN σ m n)), ⟨off_ai (off_ai q1 rfl) rfl, fun o k h => q2 o k h, q3, fun s' hs' => ?_, fun o j h1 h2 => ?_⟩, ?_⟩
    · rcases Nat.lt_or_ge s' s with w | w
      · rw [AI_n (by omega), AI_n (by omega), AI_n (by omega), AI_n (by omega)]; exact q4 s' w
      · have : s' = s := by omega
        subst this
        rw [AI_n (by omega), AI_q, AI_q]; exact ⟨rfl, rfl⟩
    · rw [AI_n (by omega), AI_n (by omega)]; exact q5 o j h1 h2
    · show Run false (d + 1) 74 15 _ [] υ' = _
      rw [s74_15, oleF hs (by decide), cond_false, e48, nI_mul, nI_add, e5, inbT (show 5 * ChN σ m n + s < 30 by omega) (by decide), cond_true, inbT hs (by decide), cond_true, cond_true, cond_true, nI_clamp (by omega), nI_clamp (by omega), a57, a58, nI_add]) 0 (wFI υ 43 2 (nI (LLx σ m n row (ChN σ m n)))) (Nat.zero_le _) ⟨off_fi off_r rfl, fun o k h => FI_n (by omega), ⟨rfl, FI_q⟩, fun s' hs' => absurd hs' (Nat.not_lt_zero s'), fun o j _ _ => rfl⟩
  have hS2 : StC σ υ2 LS y m n least oth := stC_c hS q1 (fun k hk => q2 43 k (by omega)) (fun s => ⟨q5 44 s (by omega) (by omega), q5 46 s (by omega) (by omega)⟩) (q2 48 0 (by omega)) (fun o j ho => q5 o j (by omega) (by omega))
  refine ⟨υ2, hS2, rwC_c hR (fun o j ho => q5 o j (by omega) (by omega)), q3.1, fun j => q5 50 j (by omega) (by omega), ⟨hS2.1.2.1, q3.2, fun s hs => ?_⟩, ?_⟩
  · have h1 := (hK s hs).1
    have h2 := hO s
    obtain ⟨h3, h4⟩ := hS2.1.2.2.2 s hs
    refine ⟨Nat.le_add_right _ _, ?_, (q4 s hs).1, ?_, h3, (q4 s hs).2⟩
    · show owX σ LS y m n row s + oth s ≤ 100000000
      omega
    · show AI υ2 46 s = nI (owX σ LS y m n row s + oth s - owX σ LS y m n row s)
      rw [Nat.add_sub_cancel_left]; exact h4
  · rw [s74_0, hS.2.1, inbT (show ChN σ m n < 6 by omega) (by decide), cond_true, nI_clamp (by omega), hR.2.2 _ (Nat.le_refl _)]
    refine r2.trans ?_
    show Run false (d + 1) 74 15 _ [] υ2 = _
    rw [s74_15, oleT (Nat.le_refl _) (by decide), cond_true]
theorem c75 {t C : Nat} (hd : 1 ≤ d) (hC5 : C ≤ 5) (ht : t < 2 ^ 62) (h48 : FI υ 48 0 = nI C) (hr : ∀ j, j < C → AI υ 51 j = nI (row j)) (hB : BsC υ C S) : ∃ υ', Off υ υ' ∧ (∀ o k, FI υ' o k = FI υ o k) ∧ (∀ o j, o ≠ 50 → AI υ' o j = AI υ o j) ∧ BsC υ' C (leafU t row S) ∧ Run false d 75 0 [some (.ref 48), some (.long (lN t)), none, none] [] υ = some (.inl (none, υ')) := by
  obtain ⟨d, rfl⟩ := dS hd
  obtain ⟨υ2, ⟨q1, q2, q3, q4, q5⟩, r2⟩ := lpS (P := fun s υ' => Off υ υ' ∧ (∀ o k, FI υ' o k = FI υ o k) ∧ FL υ' 48 1 = lN t ∧ (∀ j, j < s → AI υ' 50 j = nI (row j)) ∧ ∀ o j, o ≠ 50 → AI υ' o j = AI υ o j) (R := fun s υ' => Run false (d + 1) 75 26 [some (.ref 48), some (.long (lN t)), none, some (.int (nI s))] [] υ') (n := C) (fun s υ' hs hp' => by
    obtain ⟨q1, q2, q3, q4, q5⟩ := hp'
    refine ⟨wAI υ' 50 s (nI (row s)), ⟨off_ai q1 rfl, fun o k => q2 o k, q3, fun j hj => ?_, fun o j h => ?_⟩, ?_⟩
    · rcases Nat.lt_or_ge j s with w | w
      · rw [AI_n (by omega)]; exact q4 j w
      · rw [show j = s by omega, AI_q]
    · rw [AI_n (by omega)]; exact q5 o j h
    · show Run false (d + 1) 75 26 _ [] υ' = _
      rw [s75_26, q2 48 0, h48, oleF hs (by omega), cond_false, inbT (show s < 5 by omega) (by decide), cond_true, cond_true, nI_clamp (by omega), q5 51 s (by decide), hr s hs, nI_add]) 0 (wFL υ 48 1 (lN t)) (Nat.zero_le _) ⟨off_fl off_r rfl, fun o k => rfl, FL_q, fun j hj => absurd hj (Nat.not_lt_zero j), fun o j _ => rfl⟩
  have r3 : Run false (d + 1) 75 26 [some (.ref 48), some (.long (lN t)), none, some (.int (nI 0))] [] (wFL υ 48 1 (lN t)) = some (.inl (none, υ2)) := by
    refine r2.trans ?_
    show Run false (d + 1) 75 26 _ [] υ2 = _
    rw [s75_26, q2 48 0, h48, oleT (Nat.le_refl _) (by omega), cond_true]
  have fin : BsC υ2 C (some (t, row)) := ⟨q3, ht, fun j hj => q4 j hj⟩
  cases S with
  | none =>
    have e1 : FL υ 48 1 = -1 := hB
    refine ⟨υ2, q1, q2, q5, fin, ?_⟩
    rw [s75_0, e1, lgLt, m1L, cond_true, r3]
  | some x =>
    obtain ⟨t', r⟩ := x
    obtain ⟨e1, e2, e3⟩ := hB
    by_cases w : t < t'
    · have e4 : leafU t row (some (t', r)) = some (t, row) := if_pos w
      rw [e4]
      refine ⟨υ2, q1, q2, q5, fin, ?_⟩
      rw [s75_0, e1, lgLt, LLt (by omega) (by omega), Nlt (Nat.zero_le _), Bool.not_true, cond_false, lgLt, LLt (by omega) (by omega), Nlf w, Bool.not_false, cond_true, r3]
    · have e4 : leafU t row (some (t', r)) = some (t', r) := if_neg w
      rw [e4]
      refine ⟨υ, off_r, fun _ _ => rfl, fun _ _ _ => rfl, ⟨e1, e2, e3⟩, ?_⟩
      rw [s75_0, e1, lgLt, LLt (by omega) (by omega), Nlt (Nat.zero_le _), Bool.not_true, cond_false, lgLt, LLt (by omega) (by omega), Nlt (by omega), Bool.not_true, cond_false]
theorem mk_b (hP : IP σ) (hn2 : n ≤ 20) (hi : i < ChN σ m n) : mkX σ m n i ≤ 5 := by
  have h1 := (pkX_lt hi).1
  obtain ⟨M, e1, -, hM⟩ := mk5_of hP (show pkX σ m n i < 20 by omega)
  unfold mkX
  rw [e1, nI_clamp (by omega)]; exact hM
theorem c63 (hC : LC LS σ) (hP : IP σ) (hn : FI σ 85 30 = nI n) (hn2 : n ≤ 20) (hy : y ≤ 40) (hl2 : least ≤ 9999) (hO : ∀ s, oth s ≤ 90000000) : ∀ f i row S υ d, i + f = ChN σ m n → 6 + f ≤ d → StC σ υ LS y m n least oth → RwC σ υ LS y m n row i → BsC υ (ChN σ m n) S → (∀ j, j < i → row j < mkX σ m n j) → ∃ υ', StC σ υ' LS y m n least oth ∧ RwC σ υ' LS y m n row i ∧ BsC υ' (ChN σ m n) (srch (mkX σ m n) (bnX σ LS y m n) (toX σ LS y m n least oth) f i row S) ∧ Run false d 63 0 [some (.ref 0), some (.int (nI i)), some (.long (lN (coN (coX σ y m n) row i))), none, none, none] [] υ = some (.inl (none, υ')) := by
  have hC5 : ChN σ m n ≤ 5 := chL_5 n
  have hle : ∀ row, coN (coX σ y m n) row (ChN σ m n) ≤ toX σ LS y m n least oth row := fun row => Nat.le_add_right _ _
  intro f
  induction f with
  | zero =>
    intro i row S υ d hi hd hS hR hB hr
    obtain ⟨d, rfl⟩ := dS (show 1 ≤ d by omega)
    have : i = ChN σ m n := by omega
    subst this
    have hr5 : ∀ j, j < ChN σ m n → row j < 5 := fun j hj => by have := hr j hj; have := mk_b hP hn2 hj; omega
    have hco : coN (coX σ y m n) row (ChN σ m n) ≤ ChN σ m n * 1000000 := co_b hP hn2 hy hr5 _ (Nat.le_refl _)
    have hK := fun s hs => KK_b (s := s) hC hP hn hn2 hy hs hr5
    obtain ⟨υ1, a1, a2, a3, a4, a5, a6⟩ := c74 (d := d) (by omega) hS hR hK hO
    obtain ⟨υ2, b1', b2⟩ := c79 (d := d) (by omega) (LC_off a1.1.1 hC) a5 a1.1.2.2.1 hl2
    have hfe : feX σ LS y m n least oth row ≤ 5 * 1000000000 := by
      unfold feX
      split
      · exact Nat.zero_le _
      · exact fee_b (fun s hs => (hK s hs).1)
    have hto : toX σ LS y m n least oth row < 2 ^ 62 := by
      have : toX σ LS y m n least oth row = coN (coX σ y m n) row (ChN σ m n) + feX σ LS y m n least oth row := rfl
      omega
    have s2 : StC σ υ2 LS y m n least oth := stC_c a1 (stk_off b1') (fun k hk => stkF b1' 43 k rfl) (fun s => ⟨by rw [stkA b1' 44 rfl], by rw [stkA b1' 46 rfl]⟩) (stkF b1' 48 0 rfl) (fun o j ho => by rw [stkA b1' o (skA_n (by omega))])
    have r2 : RwC σ υ2 LS y m n row (ChN σ m n) := rwC_c a2 (fun o j ho => by rw [stkA b1' o (skA_n (by omega))])
    have bB : BsC υ2 (ChN σ m n) S := bsC_c hB ((stkL b1' 48 1).trans a3) (fun j => by rw [stkA b1' 50 rfl]; exact a4 j)
    obtain ⟨υ3, e1, e2, e3, e4, e5⟩ := c75 (d := d) (row := row) (by omega) hC5 hto s2.2.1 (fun j hj => r2.1 j hj) bB
    have pL : aft false (d + 1) 63 47 [some (.ref 0), some (.int (nI (ChN σ m n))), some (.long (lN (coN (coX σ y m n) row (ChN σ m n)))), none, none, none] [] (Run false d 74 0 [some (.ref 48), some (.ref 43), none] [] υ) = some (.inl (none, υ3)) := by
      have e5' : Run false d 75 0 [some (.ref 48), some (.long (lN (coN (coX σ y m n) row (ChN σ m n)) + lN (feX σ LS y m n least oth row))), none, none] [] υ2 = some (.inl (none, υ3)) := by rw [lN_add]; exact e5
      have b2' : Run false d 79 0 [some (.ref 43), some (.ref 1), none, none, none, none, none] [] υ1 = some (.inl (some (.long (lN (feX σ LS y m n least oth row))), υ2)) := b2
      rw [a6, aft_n, s63_47, b2', aft_v, s63_63, e5', aft_n, s63_67]
    have fin : StC σ υ3 LS y m n least oth ∧ RwC σ υ3 LS y m n row (ChN σ m n) := ⟨stC_c s2 e1 (fun k hk => e2 43 k) (fun s => ⟨e3 44 s (by decide), e3 46 s (by decide)⟩) (e2 48 0) (fun o j ho => e3 o j (by omega)), rwC_c r2 (fun o j ho => e3 o j (by omega))⟩
    cases S with
    | none =>
      have f1 : FL υ 48 1 = -1 := hB
      refine ⟨υ3, fin.1, fin.2, e4, ?_⟩
      rw [s63_0, f1, lgLt, m1L, cond_true, hS.2.1, oltF (Nat.le_refl _) (by omega), cond_false, pL]
    | some x =>
      obtain ⟨t, r⟩ := x
      obtain ⟨f1, f2, f3⟩ := id hB
      by_cases w : coN (coX σ y m n) row (ChN σ m n) < t
      · refine ⟨υ3, fin.1, fin.2, e4, ?_⟩
        rw [s63_0, f1, lgLt, LLt (by omega) (by omega), Nlt (Nat.zero_le _), Bool.not_true, cond_false, lgLt, LLt (by omega) (by omega), Nlf w, Bool.not_false, cond_true, hS.2.1, oltF (Nat.le_refl _) (by omega), cond_false, pL]
      · refine ⟨υ, hS, hR, ?_, ?_⟩
        · rw [srch_pr hle 0 (ChN σ m n) row t r (Nat.add_zero _) (by omega)]; exact hB
        · rw [s63_0, f1, lgLt, LLt (by omega) (by omega), Nlt (Nat.zero_le _), Bool.not_true, cond_false, lgLt, LLt (by omega) (by omega), Nlt (by omega), Bool.not_true, cond_false]
  | succ f ih =>
    intro i row S υ d hi hd hS hR hB hr
    obtain ⟨d, rfl⟩ := dS (show 1 ≤ d by omega)
    have hiC : i < ChN σ m n := by omega
    have hM5 := mk_b hP hn2 hiC
    obtain ⟨M, e98, hM, e49, hc⟩ := hS.2.2 i hiC
    have eM : mkX σ m n i = M := by unfold mkX; rw [e98, nI_clamp (by omega)]
    have hp20 : pkX σ m n i < 20 := by have := (pkX_lt hiC).1; omega
    obtain ⟨z2, υ2, ⟨q1, q2, q3⟩, r2⟩ := lpZ (P := fun k υ' => StC σ υ' LS y m n least oth ∧ RwC σ υ' LS y m n row i ∧ BsC υ' (ChN σ m n) (itN (fun k S => bif bnX σ LS y m n i k then S else srch (mkX σ m n) (bnX σ LS y m n) (toX σ LS y m n least oth) f (i + 1) (updR row i k) S) k S)) (R := fun k z υ' => Run false (d + 1) 63 71 [some (.ref 0), some (.int (nI i)), some (.long (lN (coN (coX σ y m n) row i))), none, some (.int (nI k)), z] [] υ') (n := mkX σ m n i) (fun k z υ' hk hp' => by
      obtain ⟨q1, q2, q3⟩ := hp'
      obtain ⟨M', e98', hM', e49', hc'⟩ := q1.2.2 i hiC
      have eM' : M' = M := (nI_eq (by omega) (by omega)).mp (e98'.symm.trans e98)
      subst eM'
      obtain ⟨c1, c2, c3, c4⟩ := hc' k (by omega)
      have e5 : i * 5 + k = 5 * i + k := by omega
      have c1' : obl (AI υ' 52 (5 * i + k) = nI 0) = !bnX σ LS y m n i k := by rw [c1, b1_0]; rfl
      have st : Run false (d + 1) 63 71 [some (.ref 0), some (.int (nI i)), some (.long (lN (coN (coX σ y m n) row i))), none, some (.int (nI k)), z] [] υ' = bif !bnX σ LS y m n i k then aft false (d + 1) 63 116 [some (.ref 0), some (.int (nI i)), some (.long (lN (coN (coX σ y m n) row i))), none, some (.int (nI k)), some (.int (nI (5 * i + k)))] [] (Run false d 73 0 [some (.ref 48), some (.int (nI i)), some (.int (nI k)), none, none, none] [] υ') else Run false (d + 1) 63 136 [some (.ref 0), some (.int (nI i)), some (.long (lN (coN (coX σ y m n) row i))), none, some (.int (nI k)), some (.int (nI (5 * i + k)))] [] υ' := by
        rw [s63_71, inbT (show i < 5 by omega) (by decide), cond_true, nI_clamp (by omega), e49', oleF (by omega) (by omega), cond_false, nI_mul, nI_add, e5, inbT (show 5 * i + k < 25 by omega) (by decide), cond_true, nI_clamp (by omega), c1']
      cases w : bnX σ LS y m n i k
      · obtain ⟨υ1, a1, a2, a3, a4, a5⟩ := c73 (d := d) (by omega) hiC q1 q2 hk
        obtain ⟨M'', e98'', hM'', e49'', hc''⟩ := a1.2.2 i hiC
        have eM'' : M'' = M' := (nI_eq (by omega) (by omega)).mp (e98''.symm.trans e98)
        subst eM''
        have c53 := (hc'' k (by omega)).2.1
        obtain ⟨υ3, g1, g2, g3, g4⟩ := ih (i + 1) (updR row i k) _ υ1 d (by omega) (by omega) a1 a2 (bsC_c q3 a3 a4) (fun j hj => by
          by_cases v : j = i
          · subst v; rw [updR_q]; exact hk
          · rw [updR_n v]; exact hr j (by omega))
        have e6 : coN (coX σ y m n) (updR row i k) (i + 1) = coN (coX σ y m n) row i + cnE σ y (pkX σ m n i) k := by
          show coN (coX σ y m n) (updR row i k) i + cnE σ y (pkX σ m n i) (updR row i k i) = _
          rw [coN_c (r := row) i (fun j hj => updR_n (by omega)), updR_q]
        have hcn := (cn_le hP hp20 (show k < 5 by omega) hy).1
        refine ⟨some (.int (nI (5 * i + k))), υ3, ⟨g1, rwC_u g2, ?_⟩, ?_⟩
        · show BsC υ3 (ChN σ m n) (bif bnX σ LS y m n i k then _ else _)
          rw [w, cond_false]; exact g3
        · rw [e6, ← lN_add, ← nI_l (show cnE σ y (pkX σ m n i) k < 2 ^ 31 by omega)] at g4
          rw [st, w, Bool.not_false, cond_true, a5, aft_n, s63_116, inbT (show 5 * i + k < 25 by omega) (by decide), cond_true, nI_clamp (by omega), c53, nI_add, g4, aft_n, s63_136, nI_add]
      · refine ⟨some (.int (nI (5 * i + k))), υ', ⟨q1, q2, ?_⟩, ?_⟩
        · show BsC υ' (ChN σ m n) (bif bnX σ LS y m n i k then _ else _)
          rw [w, cond_true]; exact q3
        · rw [st, w, Bool.not_true, cond_false, s63_136, nI_add]) 0 none υ (Nat.zero_le _) ⟨hS, hR, hB⟩
    have pL : Run false (d + 1) 63 71 [some (.ref 0), some (.int (nI i)), some (.long (lN (coN (coX σ y m n) row i))), none, some (.int (nI 0)), none] [] υ = some (.inl (none, υ2)) := by
      obtain ⟨M', e98', hM', e49', hc'⟩ := q1.2.2 i hiC
      have eM' : M' = M := (nI_eq (by omega) (by omega)).mp (e98'.symm.trans e98)
      refine r2.trans ?_
      show Run false (d + 1) 63 71 _ [] υ2 = _
      rw [s63_71, inbT (show i < 5 by omega) (by decide), cond_true, nI_clamp (by omega), e49', oleT (by omega) (by omega), cond_true]
    cases S with
    | none =>
      have f1 : FL υ 48 1 = -1 := hB
      refine ⟨υ2, q1, q2, q3, ?_⟩
      rw [s63_0, f1, lgLt, m1L, cond_true, hS.2.1, oltT hiC (by omega), cond_true, pL]
    | some x =>
      obtain ⟨t, r⟩ := x
      obtain ⟨f1, f2, f3⟩ := id hB
      by_cases w : coN (coX σ y m n) row i < t
      · refine ⟨υ2, q1, q2, q3, ?_⟩
        rw [s63_0, f1, lgLt, LLt (by omega) (by omega), Nlt (Nat.zero_le _), Bool.not_true, cond_false, lgLt, LLt (by omega) (by omega), Nlf w, Bool.not_false, cond_true, hS.2.1, oltT hiC (by omega), cond_true, pL]
      · have hcob : coN (coX σ y m n) row i < 2 ^ 62 := by
          have : ∀ i', i' ≤ i → coN (coX σ y m n) row i' ≤ i' * 1000000 := by
            intro i'
            induction i' with
            | zero => intro _; exact Nat.zero_le _
            | succ i' jh =>
              intro hi'
              have h1 := jh (by omega)
              have h2 := (pkX_lt (σ := σ) (m := m) (n := n) (show i' < ChN σ m n by omega)).1
              have h4 := hr i' (by omega)
              have h5 := mk_b hP hn2 (show i' < ChN σ m n by omega)
              have h3 := (cn_le hP (show pkX σ m n i' < 20 by omega) (show row i' < 5 by omega) hy).1
              show coN (coX σ y m n) row i' + cnE σ y (pkX σ m n i') (row i') ≤ (i' + 1) * 1000000
              omega
          have := this i (Nat.le_refl _)
          omega
        refine ⟨υ, hS, hR, ?_, ?_⟩
        · rw [srch_pr hle (f + 1) i row t r (by omega) (by omega)]; exact hB
        · rw [s63_0, f1, lgLt, LLt (by omega) (by omega), Nlt (Nat.zero_le _), Bool.not_true, cond_false, lgLt, LLt (by omega) (by omega), Nlt (by omega), Bool.not_true, cond_false]
end CT
