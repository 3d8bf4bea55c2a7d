/-! THE PURE PROOFS: the cheapest makes: the class's loop over the packets -/
section CD
variable {d y m n i p k least : Nat} {LS : List LAW} {σ τ υ : PS} {F A : Nat → Nat → Prop} {oth : Nat → Nat}
theorem cellA_c (h : CellA σ υ LS y i p) (e : ∀ o j, (o = 49 ∧ j = i) ∨ (52 ≤ o ∧ o ≤ 54 ∧ 5 * i ≤ j ∧ j < 5 * i + 5) ∨ (55 ≤ o ∧ o ≤ 56 ∧ 25 * i ≤ j ∧ j < 25 * i + 25) → AI τ o j = AI υ o j) : CellA σ τ LS y i p := by
  obtain ⟨M, h1, h2, h3, h4⟩ := h
  refine ⟨M, h1, h2, (e 49 i (Or.inl ⟨rfl, rfl⟩)).trans h3, fun k hk => ?_⟩
  obtain ⟨c1, c2, c3, c4⟩ := h4 k hk
  refine ⟨(e 52 _ (by omega)).trans c1, (e 53 _ (by omega)).trans c2, (e 54 _ (by omega)).trans c3, fun s hs => ⟨(e 55 _ (by omega)).trans (c4 s hs).1, (e 56 _ (by omega)).trans (c4 s hs).2⟩⟩
theorem sfx_c {least : Nat} (h : SFx σ υ LS y least oth) (ho : Off σ τ) (e1 : ∀ k, k ≤ 1 → FI τ 43 k = FI υ 43 k) (e2 : ∀ s, AI τ 44 s = AI υ 44 s ∧ AI τ 46 s = AI υ 46 s) : SFx σ τ LS y least oth := ⟨ho, (e1 0 (by omega)).trans h.2.1, (e1 1 (by omega)).trans h.2.2.1, fun s hs => by rw [(e2 s).1, (e2 s).2]; exact h.2.2.2 s hs⟩
theorem chP_1 {j : Nat} (h1 : owP σ m j = true) (h2 : (chP σ m j).length < 5) : chP σ m (j + 1) = chP σ m j ++ [j] := if_pos ⟨h1, h2⟩
theorem chP_0 {j : Nat} (h : ¬ (owP σ m j = true ∧ (chP σ m j).length < 5)) : chP σ m (j + 1) = chP σ m j := if_neg h
theorem getD_L {L : List Nat} {i x : Nat} (h : i < L.length) : (L ++ [x]).getD i 0 = L.getD i 0 := by rw [List.getD_eq_getElem?_getD, List.getElem?_append_left h, List.getD_eq_getElem?_getD]
theorem getD_R {L : List Nat} {x : Nat} : (L ++ [x]).getD L.length 0 = x := by rw [List.getD_eq_getElem?_getD, List.getElem?_append_right (Nat.le_refl _), Nat.sub_self]; rfl
theorem lBs_5 (n : Nat) : lBs σ m n ≤ 5 := by
  show rsG max 0 (owP σ m) (fun p => layM σ p (mdN σ p)) n ≤ 5
  induction n with
  | zero => exact Nat.zero_le _
  | succ n ih =>
    have := @layM_le σ n (mdN σ n)
    show (if owP σ m n = true ∧ ¬ (chL (owP σ m) n).length < 5 then max (rsG max 0 (owP σ m) (fun p => layM σ p (mdN σ p)) n) (layM σ n (mdN σ n)) else rsG max 0 (owP σ m) (fun p => layM σ p (mdN σ p)) n) ≤ 5
    split
    · omega
    · exact ih
/-- a packet on -/
theorem c60_j {j : Nat} (hd : 7 ≤ d) (hy : y ≤ 40) (hC : LC LS σ) (hP : IP σ) (hn : FI σ 85 30 = nI n) (hnc : FI σ 17 0 = nI n) (hn2 : n ≤ 20) (hj : j < n) (h : PLx σ υ LS y m least oth j) : ∃ υ', PLx σ υ' LS y m least oth (j + 1) ∧ Run false (d + 1) 60 24 [some (.ref 0), some (.int (nI m)), some (.int (nI y)), some (.int (nI j))] [] υ = Run false (d + 1) 60 24 [some (.ref 0), some (.int (nI m)), some (.int (nI y)), some (.int (nI (j + 1)))] [] υ' := by
  obtain ⟨h1, h2, h3, h4, h5, h6⟩ := h
  have ho := h1.1
  have e17 : FI υ 17 0 = nI n := (offF ho 17 0 rfl).trans hnc
  have e18 : AI υ 18 j = AI σ 97 j := by rw [offA ho 18 rfl]; exact (hP.2.1 j (by omega)).1
  have l5 : (chP σ m j).length ≤ 5 := chL_5 j
  have st : Run false (d + 1) 60 24 [some (.ref 0), some (.int (nI m)), some (.int (nI y)), some (.int (nI j))] [] υ = bif owP σ m j then (if (chP σ m j).length < 5 then aft false (d + 1) 60 65 [some (.ref 0), some (.int (nI m)), some (.int (nI y)), some (.int (nI j))] [] (Run false d 61 0 [some (.ref 0), some (.int (nI j)), some (.int (nI y)), none, none, none, none] [] υ) else aft false (d + 1) 60 89 [some (.ref 0), some (.int (nI m)), some (.int (nI y)), some (.int (nI j))] [] (Run false d 127 0 [some (.ref 17), some (.int (nI j))] [] υ)) else Run false (d + 1) 60 24 [some (.ref 0), some (.int (nI m)), some (.int (nI y)), some (.int (nI (j + 1)))] [] υ := by
    rw [s60_24, e17, oleF hj (by omega), cond_false, inbT (show j < 20 by omega) (by decide), cond_true, nI_clamp (by omega), e18, h3]
    have w : obl (AI σ 97 j = nI m) = owP σ m j := rfl
    rw [w]
    cases owP σ m j
    · simp only [cond_true, cond_false]
      rw [s60_105, nI_add]
    · simp only [cond_true]
      by_cases w : (chP σ m j).length < 5
      · rw [oleF w (by decide), cond_false, if_pos w]
      · rw [oleT (by omega) (by omega), cond_true, if_neg w]
  cases w : owP σ m j
  · refine ⟨υ, ⟨h1, h2, ?_, ?_, ?_, ?_⟩, by rw [st, w, cond_false]⟩
    · rw [chP_0 (by rw [w]; simp)]; exact h3
    · rw [chP_0 (by rw [w]; simp)]; exact h4
    · intro s hs
      have e1 : kBs σ LS y m s (j + 1) = kBs σ LS y m s j := if_neg (by rw [w]; simp)
      have e2 : gBs σ m s (j + 1) = gBs σ m s j := if_neg (by rw [w]; simp)
      rw [e1, e2]; exact h5 s hs
    · have e1 : lBs σ m (j + 1) = lBs σ m j := if_neg (by rw [w]; simp)
      rw [e1]; exact h6
  · by_cases v : (chP σ m j).length < 5
    · obtain ⟨υ', g1, g2, g3, g4⟩ := c61 (d := d) (by omega) hy hC hP hn hn2 hj v ho h3
      have ho' : Off σ υ' := off_t ho (frP_off g1 (fun o k h => F1_sc h) (fun o j h => A1_sc h))
      have eL := chP_1 w v
      have nF : ∀ k, k ≤ 1 → ¬ F1 43 k := fun k hk => by
        rintro (⟨a, -⟩ | a)
        · omega
        · rw [skF_n (by omega)] at a; cases a
      refine ⟨υ', ⟨sfx_c h1 ho' (fun k hk => g1.2.2.1 43 k (nF k hk)) (fun s => ⟨frP_oA g1 (by omega) (by omega), frP_oA g1 (by omega) (by omega)⟩), ?_, ?_, fun i hi => ?_, fun s hs => ?_, ?_⟩, by rw [st, w, cond_true, if_pos v, g4, aft_n, s60_65, s60_105, nI_add]⟩
      · rw [g1.2.2.2.1 48 1 (by
          rintro ⟨⟨-, a⟩ | a, -⟩
          · omega
          · rw [skF_n (by omega)] at a; cases a)]; exact h2
      · rw [g2, eL, List.length_append]; rfl
      · rw [eL] at hi ⊢
        rw [List.length_append] at hi
        have hi' : i < (chP σ m j).length + 1 := hi
        by_cases u : i < (chP σ m j).length
        · rw [getD_L u]
          exact cellA_c (h4 i u) (fun o j' hh => frP_oA g1 (by omega) (by omega))
        · have : i = (chP σ m j).length := by omega
          subst this
          rw [getD_R]; exact g3
      · have e1 : kBs σ LS y m s (j + 1) = kBs σ LS y m s j := if_neg (fun x => x.2 v)
        have e2 : gBs σ m s (j + 1) = gBs σ m s j := if_neg (fun x => x.2 v)
        rw [e1, e2, frP_oA g1 (by omega) (by omega), frP_oA g1 (by omega) (by omega)]; exact h5 s hs
      · have e1 : lBs σ m (j + 1) = lBs σ m j := if_neg (fun x => x.2 v)
        rw [e1, frP_oA g1 (by omega) (by omega)]; exact h6
    · have eL := chP_0 (σ := σ) (m := m) (j := j) (fun x => v x.2)
      have e1 : ∀ s, kBs σ LS y m s (j + 1) = kBs σ LS y m s j + kE σ LS y s j (mdN σ j) := fun s => if_pos ⟨w, v⟩
      have e2 : ∀ s, gBs σ m s (j + 1) = gBs σ m s j + grM σ j (mdN σ j) s := fun s => if_pos ⟨w, v⟩
      have e3 : lBs σ m (j + 1) = max (lBs σ m j) (layM σ j (mdN σ j)) := if_pos ⟨w, v⟩
      rcases c127 (d := d) (by omega) (IP_off ho hP) (show j < 20 by omega) with ⟨g1, g2, g3⟩ | ⟨k, g0, g1, g2, g3⟩
      · rw [offA ho 98 rfl] at g1
        have e4 : ∀ s, grM σ j (mdN σ j) s = nI 0 := fun s => by unfold grM; rw [obl_t g1]; rfl
        refine ⟨υ, ⟨h1, h2, by rw [eL]; exact h3, by rw [eL]; exact h4, fun s hs => ?_, ?_⟩, ?_⟩
        · rw [e1, e2, e4]
          unfold kE kgM
          rw [e4, kg_0, nI_z, nI_z]; exact h5 s hs
        · rw [e3, layM_0 g1, Nat.max_eq_left (Nat.zero_le _)]; exact h6
        · rw [st, w, cond_true, if_neg v, g3, aft_v, s60_89, obl_t (show (-1 : Int32) < nI 0 by decide +kernel), cond_true, s60_105, nI_add]
      · rw [offA ho 98 rfl] at g2
        rw [offA ho 99 rfl] at g1
        have ek : mdN σ j = k := by unfold mdN; rw [g1, nI_clamp (by omega)]
        rw [ek] at e1 e2 e3
        obtain ⟨υ', q1, q2, q3, q4⟩ := c62 (d := d) (k := k) (by omega) hy hC hP hn hn2 hj g0 g2 ho h6 (lBs_5 j)
        have ho' : Off σ υ' := off_t ho (frP_off q1 (fun o k h => h.elim) (fun o j h => A2_sc h))
        have qA : ∀ o j, ¬ A2 o j → AI υ' o j = AI υ o j := q1.2.2.2.2
        refine ⟨υ', ⟨sfx_c h1 ho' (fun k hk => q1.2.2.1 43 k id) (fun s => ⟨qA 44 s (by rintro (⟨a, b, c⟩ | ⟨a, b⟩) <;> omega), qA 46 s (by rintro (⟨a, b, c⟩ | ⟨a, b⟩) <;> omega)⟩), ?_, ?_, fun i hi => ?_, fun s hs => ?_, ?_⟩, ?_⟩
        · rw [q1.2.2.2.1 48 1 (fun x => x.1)]; exact h2
        · rw [q1.2.2.1 48 0 id, eL]; exact h3
        · rw [eL] at hi ⊢
          exact cellA_c (h4 i hi) (fun o j' hh => qA o j' (by rintro (⟨a, b, c⟩ | ⟨a, b⟩) <;> omega))
        · rw [e1, e2, (q2 s hs).1, (q2 s hs).2, (h5 s hs).1, (h5 s hs).2]; exact ⟨rfl, rfl⟩
        · rw [e3]; exact q3
        · rw [st, w, cond_true, if_neg v, g3, aft_v, s60_89, obl_f (show ¬ nI (5 * j + k) < nI 0 from nI_nlt (Nat.zero_le _) (by omega)), cond_false, g3, aft_v, s60_101, q4, aft_n, s60_105, nI_add]
theorem c60_lay {nW nD M nJ : Nat} (hd : 8 ≤ d) (hy : y ≤ 40) (hC : LC LS σ) (hP : IP σ) (hn : FI σ 85 30 = nI n) (hnc : FI σ 17 0 = nI n) (hn2 : n ≤ 20) (hm : m < M) (hD : ID σ) (hnD : FI σ 26 0 = nI nD) (hnD2 : nD ≤ 200) (h85 : FI σ 85 39 = nI nD) (hS : IS σ) (hJ : FI σ 31 1 = nI nJ) (hJ2 : nJ ≤ 60) (hM : FI σ 0 1 = nI M) (hM2 : M ≤ 10) (hW : FI σ 0 0 = nI nW) : ∃ υ, PLx σ υ LS y m (numV (clL LS 5 0 y) 0) (fun s => sumN (fun o => dcN σ y (nI nW) nD o s) M - dcN σ y (nI nW) nD m s) n ∧ Run false (d + 1) 60 0 [some (.ref 0), some (.int (nI m)), some (.int (nI y)), none] [] σ = aft false (d + 1) 60 117 [some (.ref 0), some (.int (nI m)), some (.int (nI y)), some (.int (nI n))] [] (Run false d 63 0 [some (.ref 0), some (.int (nI 0)), some (.long (lN 0)), none, none, none] [] υ) := by
  have hb : ∀ m s, dcN σ y (nI nW) nD m s ≤ 10000000 := fun m s => (dcN_e hD h85 hnD2).2
  obtain ⟨τ, o1, v1, r1⟩ := c55 (d := d) (k := nI nW) (by omega) hy hC hD hnD hnD2 hS hJ hJ2 hM hM2
  obtain ⟨υ, e1, r2⟩ := c57 (σ := σ) (d := d) (by omega) hy hM2 hm hb (LC_off o1 hC) o1 v1
  obtain ⟨f1, f2, f3, f4, f5⟩ := e1
  obtain ⟨e, rfl⟩ := dS (show 1 ≤ d by omega)
  -- cleared
  obtain ⟨υ2, ⟨q1, q2, q3, q4, q5, q6⟩, r3⟩ := lpS (P := fun s υ' => SFx σ υ' LS y (numV (clL LS 5 0 y) 0) (fun s => sumN (fun o => dcN σ y (nI nW) nD o s) M - dcN σ y (nI nW) nD m s) ∧ FL υ' 48 1 = -1 ∧ FI υ' 48 0 = nI 0 ∧ AI υ' 59 0 = nI 0 ∧ (∀ s', s' < s → AI υ' 57 s' = nI 0 ∧ AI υ' 58 s' = nI 0) ∧ True) (R := fun s υ' => Run false (e + 1) 71 21 [some (.ref 48), some (.int (nI s))] [] υ') (n := 5) (fun s υ' hs hp' => by
    obtain ⟨q1, q2, q3, q4, q5, -⟩ := hp'
    refine ⟨wAI (wAI υ' 57 s (nI 0)) 58 s (nI 0), ⟨sfx_c q1 (off_ai (off_ai q1.1 rfl) rfl) (fun k hk => rfl) (fun s => ⟨by rw [AI_n (by omega), AI_n (by omega)], by rw [AI_n (by omega), AI_n (by omega)]⟩), q2, q3, ?_, fun s' hs' => ?_, trivial⟩, ?_⟩
    · rw [AI_n (by omega), AI_n (by omega)]; exact q4
    · rcases Nat.lt_or_ge s' s with w | w
      · rw [AI_n (by omega), AI_n (by omega), AI_n (by omega), AI_n (by omega)]; exact q5 s' w
      · have : s' = s := by omega
        subst this
        rw [AI_n (by omega), AI_q, AI_q]; exact ⟨rfl, rfl⟩
    · show Run false (e + 1) 71 21 _ [] υ' = _
      rw [s71_21, oleF hs (by decide), cond_false, inbT (by omega) (by decide), cond_true, cond_true, nI_clamp (by omega), nI_add]) 0 (wAI (wFL (wFI υ 48 0 (nI 0)) 48 1 (-1)) 59 0 (nI 0)) (Nat.zero_le _) ⟨⟨off_ai (off_fl (off_fi f1 rfl) rfl) rfl, f3, f4, fun s hs => by rw [AI_n (by omega), AI_n (by omega)]; exact f5 s hs⟩, by show FL (wFL (wFI υ 48 0 (nI 0)) 48 1 (-1)) 48 1 = -1; exact FL_q, by show FI (wFL (wFI υ 48 0 (nI 0)) 48 1 (-1)) 48 0 = _; rw [FI_fl, FI_q], AI_q, fun s' hs' => absurd hs' (Nat.not_lt_zero s'), trivial⟩
  have r4 : Run false (e + 1) 71 0 [some (.ref 48), none] [] υ = some (.inl (none, υ2)) := by
    have e0 : (nI 0).toNatClampNeg = 0 := nI_clamp (by decide)
    rw [s71_0, inbT (by decide) (by decide), cond_true, e0]
    refine r3.trans ?_
    show Run false (e + 1) 71 21 _ [] υ2 = _
    rw [s71_21, oleT (Nat.le_refl _) (by decide), cond_true]
  obtain ⟨υ3, p1, p2⟩ := lpS (P := fun j υ' => PLx σ υ' LS y m (numV (clL LS 5 0 y) 0) (fun s => sumN (fun o => dcN σ y (nI nW) nD o s) M - dcN σ y (nI nW) nD m s) j) (R := fun j υ' => Run false (e + 1 + 1) 60 24 [some (.ref 0), some (.int (nI m)), some (.int (nI y)), some (.int (nI j))] [] υ') (n := n) (fun j υ' hj hp' => c60_j (d := e + 1) (by omega) hy hC hP hn hnc hn2 hj hp') 0 υ2 (Nat.zero_le _) ⟨q1, q2, q3, fun i hi => absurd hi (Nat.not_lt_zero i), fun s hs => q5 s hs, q4⟩
  refine ⟨υ3, p1, ?_⟩
  have e17 : FI υ3 17 0 = nI n := (offF p1.1.1 17 0 rfl).trans hnc
  rw [s60_0, hW, r1, aft_n, s60_9, r2, aft_n, s60_15, r4, aft_n, s60_22]
  refine p2.trans ?_
  show Run false (e + 1 + 1) 60 24 _ [] υ3 = _
  rw [s60_24, e17, oleT (Nat.le_refl _) (by omega), cond_true]
end CD
