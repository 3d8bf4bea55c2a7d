/-! THE PURE PROOFS: the cheapest makes: the class has laid out -/
noncomputable def CellA (σ υ : PS) (LS : List LAW) (y i p : Nat) : Prop := ∃ M, AI σ 98 p = nI M ∧ M ≤ 5 ∧ AI υ 49 i = nI M ∧ ∀ k, k < M → CellK σ υ LS y i p k
noncomputable def owP (σ : PS) (m : Nat) : Nat → Bool := fun p => obl (AI σ 97 p = nI m)
noncomputable def mdN (σ : PS) (p : Nat) : Nat := (AI σ 99 p).toNatClampNeg
noncomputable def kBs (σ : PS) (LS : List LAW) (y m s : Nat) : Nat → Int32 := rsG (fun a b => a + b) (nI 0) (owP σ m) (fun p => kE σ LS y s p (mdN σ p))
noncomputable def gBs (σ : PS) (m s : Nat) : Nat → Int32 := rsG (fun a b => a + b) (nI 0) (owP σ m) (fun p => grM σ p (mdN σ p) s)
noncomputable def lBs (σ : PS) (m : Nat) : Nat → Nat := rsG max 0 (owP σ m) (fun p => layM σ p (mdN σ p))
noncomputable def chP (σ : PS) (m n : Nat) : List Nat := chL (owP σ m) n
def SFx (σ υ : PS) (LS : List LAW) (y least : Nat) (oth : Nat → Nat) : Prop := Off σ υ ∧ FI υ 43 0 = nI y ∧ FI υ 43 1 = nI least ∧ ∀ s, s < 5 → AI υ 44 s = ixV (lawIx LS 0 s y LS.length) ∧ AI υ 46 s = nI (oth s)
/-- the class laid out the first j packets -/
noncomputable def PLx (σ υ : PS) (LS : List LAW) (y m least : Nat) (oth : Nat → Nat) (j : Nat) : Prop := SFx σ υ LS y least oth ∧ FL υ 48 1 = -1 ∧ FI υ 48 0 = nI (chP σ m j).length ∧ (∀ i, i < (chP σ m j).length → CellA σ υ LS y i ((chP σ m j).getD i 0)) ∧ (∀ s, s < 5 → AI υ 57 s = kBs σ LS y m s j ∧ AI υ 58 s = gBs σ m s j) ∧ AI υ 59 0 = nI (lBs σ m j)
section CC
variable {d y m n i p k least : Nat} {LS : List LAW} {σ τ υ : PS} {F A : Nat → Nat → Prop} {oth : Nat → Nat}
theorem mk5_of (hP : IP σ) (hp : p < 20) : ∃ M, AI σ 98 p = nI M ∧ AI σ 19 p = nI M ∧ M ≤ 5 := by
  rcases mk_of hP hp with ⟨h1, h2, h3, h4⟩ | ⟨k, n, h1, h2, h3, h4, h5, h6, h7⟩
  · exact ⟨0, h1, h3, by omega⟩
  · exact ⟨n, h5, h6, h2⟩
theorem c61 (hd : 6 ≤ d) (hy : y ≤ 40) (hC : LC LS σ) (hP : IP σ) (hn : FI σ 85 30 = nI n) (hn2 : n ≤ 20) (hp : p < n) (hi : i < 5) (ho : Off σ υ) (h48 : FI υ 48 0 = nI i) : ∃ υ', FrP F1 (A1 i) υ υ' ∧ FI υ' 48 0 = nI (i + 1) ∧ CellA σ υ' LS y i p ∧ Run false d 61 0 [some (.ref 0), some (.int (nI p)), some (.int (nI y)), none, none, none, none] [] υ = some (.inl (none, υ')) := by
  obtain ⟨d, rfl⟩ := dS (show 1 ≤ d by omega)
  obtain ⟨e, rfl⟩ := dS (show 1 ≤ d by omega)
  obtain ⟨M, e98, e19, hM⟩ := mk5_of hP (show p < 20 by omega)
  have eu : AI υ 19 p = nI M := by rw [offA ho 19 rfl]; exact e19
  have lp : ∀ w k z5 z6 υ', M - k = w → k ≤ M → FrP F1 (A1 i) υ υ' → FI υ' 48 0 = nI (i + 1) → AI υ' 49 i = nI M → (∀ k', k' < k → CellK σ υ' LS y i p k') → ∃ υ'', FrP F1 (A1 i) υ υ'' ∧ FI υ'' 48 0 = nI (i + 1) ∧ CellA σ υ'' LS y i p ∧ Run false (e + 1 + 1) 61 20 [some (.ref 0), some (.int (nI p)), some (.int (nI y)), some (.int (nI (5 * i))), some (.int (nI k)), z5, z6] [] υ' = some (.inl (none, υ'')) := by
    intro w
    induction w with
    | zero =>
      intro k z5 z6 υ' hw hk h1 h2 h3 h4
      have : k = M := by omega
      subst this
      have eu' : AI υ' 19 p = nI k := by
        rw [frP_oA h1 (by omega) (by omega)]; exact eu
      refine ⟨υ', h1, h2, ⟨k, e98, hM, h3, h4⟩, ?_⟩
      rw [s61_20, inbT (by omega) (by decide), cond_true, nI_clamp (by omega), eu', oleT (Nat.le_refl _) (by omega), cond_true]
    | succ w ih =>
      intro k z5 z6 υ' hw hk h1 h2 h3 h4
      have ho' : Off σ υ' := off_t ho (frP_off h1 (fun o k h => F1_sc h) (fun o j h => A1_sc h))
      obtain ⟨υ2, b1', b2, b3, b4, b5, z5', z6', b6⟩ := c61_k (d := e + 1) (υ := υ') (i := i) (k := k) (p := p) (n := n) (a3 := 5 * i) (z5 := z5) (z6 := z6) (by omega) hy hC hP hn hn2 hp hi (by omega) (by rw [e98]; exact fun q => by have := (nI_eq (by omega) (by decide)).mp q; omega) ho' ⟨M, e98, by omega, hM⟩ rfl
      obtain ⟨υ3, g1, g2, g3, g4⟩ := ih (k + 1) z5' z6' υ2 (by omega) (by omega) (frP_t h1 b1') (b2.trans h2) (b3.trans h3) (fun k' hk' => by
        rcases Nat.lt_or_ge k' k with w | w
        · exact b4 k' w (h4 k' w)
        · rw [show k' = k by omega]; exact b5)
      exact ⟨υ3, g1, g2, g3, b6.trans g4⟩
  have e5 : i * 5 = 5 * i := by omega
  obtain ⟨υ2, g1, g2, g3, g4⟩ := lp M 0 none none (wFI (wAI υ 49 i (nI M)) 48 0 (nI (i + 1))) rfl (Nat.zero_le _) (frP_fi (frP_ai frP_r (Or.inr (Or.inl ⟨rfl, rfl⟩))) (Or.inl ⟨rfl, rfl⟩)) FI_q AI_q (fun k' hk' => absurd hk' (Nat.not_lt_zero k'))
  refine ⟨υ2, g1, g2, g3, ?_⟩
  rw [s61_0, inbT (by omega) (by decide), cond_true, nI_clamp (by omega), eu, s72_0, h48, inbT hi (by decide), cond_true, nI_clamp (by omega), nI_pm, nI_mul, nI_add, e5, aft_v, s61_16]
  exact g4
/-- the others stand in all rows -/
theorem c62 {la : Nat} (hd : 5 ≤ d) (hy : y ≤ 40) (hC : LC LS σ) (hP : IP σ) (hn : FI σ 85 30 = nI n) (hn2 : n ≤ 20) (hp : p < n) (hk : k < 5) (hmk : ¬ AI σ 98 p = nI 0) (ho : Off σ υ) (hl : AI υ 59 0 = nI la) (hla : la ≤ 5) : ∃ υ', FrP (fun _ _ => False) A2 υ υ' ∧ (∀ s, s < 5 → AI υ' 57 s = AI υ 57 s + kE σ LS y s p k ∧ AI υ' 58 s = AI υ 58 s + grM σ p k s) ∧ AI υ' 59 0 = nI (max la (layM σ p k)) ∧ Run false d 62 0 [some (.ref 0), some (.int (nI (5 * p + k))), some (.int (nI y)), none] [] υ = some (.inl (none, υ')) := by
  obtain ⟨d, rfl⟩ := dS (show 1 ≤ d by omega)
  obtain ⟨t, t1, t2, t3, t4⟩ := trips_of hP hn hn2 hp hy
  obtain ⟨υ2, ⟨q1, q2, q3, q4⟩, r2⟩ := lpS (P := fun s υ' => FrP (fun _ _ => False) A2 υ υ' ∧ AI υ' 59 0 = nI la ∧ (∀ s', s' < s → AI υ' 57 s' = AI υ 57 s' + kE σ LS y s' p k ∧ AI υ' 58 s' = AI υ 58 s' + grM σ p k s') ∧ (∀ s', s ≤ s' → AI υ' 57 s' = AI υ 57 s' ∧ AI υ' 58 s' = AI υ 58 s')) (R := fun s υ' => Run false (d + 1) 62 2 [some (.ref 0), some (.int (nI (5 * p + k))), some (.int (nI y)), some (.int (nI s))] [] υ') (n := 5) (fun s υ' hs hp' => by
    obtain ⟨q1, q2, q3, q4⟩ := hp'
    have o1 : Off σ υ' := off_t ho (frP_off q1 (fun o k h => h.elim) (fun o j h => A2_sc h))
    have k5 := c54 (d := d) (p := p) (k := k) (s := s) (y := y) (t := t) (by omega) (IP_off o1 hP) (by omega) hk (by omega) hy t1 t2 (by rw [offA o1 104 rfl]; exact t3) (by rw [offA o1 23 rfl]; exact t4) (by rw [offA o1 98 rfl]; exact hmk) (LC_off o1 hC)
    rw [kgM_off o1] at k5
    have o2 : Off σ (wAI υ' 57 s (AI υ 57 s + kE σ LS y s p k)) := off_ai o1 rfl
    have k6 := c125 (d := d) (g := 5 * p + k) (s := s) (by omega) (IP_off o2 hP) (by omega) (by omega)
    have e6 : AI (wAI υ' 57 s (AI υ 57 s + kE σ LS y s p k)) 100 (5 * (5 * p + k) + s) = grM σ p k s := by
      rw [offA o2 100 rfl]; unfold grM; rw [obl_f hmk]; rfl
    rw [e6] at k6
    have e58 : AI (wAI υ' 57 s (AI υ 57 s + kE σ LS y s p k)) 58 s = AI υ 58 s := by rw [AI_n (by omega)]; exact (q4 s (Nat.le_refl _)).2
    refine ⟨wAI (wAI υ' 57 s (AI υ 57 s + kE σ LS y s p k)) 58 s (AI υ 58 s + grM σ p k s), ⟨frP_ai (frP_ai q1 (Or.inl (by omega))) (Or.inl (by omega)), ?_, fun s' hs' => ?_, fun s' hs' => ?_⟩, ?_⟩
    · rw [AI_n (by omega), AI_n (by omega)]; exact q2
    · rcases Nat.lt_or_ge s' s with w | w
      · rw [AI_n (by omega), AI_n (by omega), AI_n (by omega), AI_n (by omega)]; exact q3 s' w
      · have : s' = s := by omega
        subst this
        rw [AI_n (by omega), AI_q, AI_q]; exact ⟨rfl, rfl⟩
    · rw [AI_n (by omega), AI_n (by omega), AI_n (by omega), AI_n (by omega)]; exact q4 s' (by omega)
    · show Run false (d + 1) 62 2 _ [] υ' = _
      rw [s62_2, oleF hs (by decide), cond_false, inbT (by omega) (by decide), cond_true, nI_clamp (by omega), (q4 s (Nat.le_refl _)).1, k5, aft_v, s62_24, inbT (by omega) (by decide), cond_true, cond_true, nI_clamp (by omega)]
      show aft _ _ _ _ _ [.int (AI (wAI υ' 57 s (AI υ 57 s + kE σ LS y s p k)) 58 s), .int (nI s), .ref 58] (Run false d 125 0 _ [] (wAI υ' 57 s (AI υ 57 s + kE σ LS y s p k))) = _
      rw [k6, aft_v, s62_45, inbT (by omega) (by decide), cond_true, nI_clamp (by omega), e58, nI_add]) 0 υ (Nat.zero_le _) ⟨frP_r, hl, fun s' hs' => absurd hs' (Nat.not_lt_zero s'), fun s' _ => ⟨rfl, rfl⟩⟩
  have o1 : Off σ υ2 := off_t ho (frP_off q1 (fun o k h => h.elim) (fun o j h => A2_sc h))
  have k4 := c126 (d := d) (g := 5 * p + k) (by omega) (IP_off o1 hP) (by omega)
  rw [layG_off o1, ← layM_G hmk] at k4
  have l5 := @layM_le σ p k
  refine ⟨wAI υ2 59 0 (nI (max la (layM σ p k))), frP_ai q1 (Or.inr ⟨rfl, rfl⟩), fun s hs => ?_, AI_q, ?_⟩
  · rw [AI_n (by omega), AI_n (by omega)]; exact q3 s hs
  · rw [s62_0]
    refine r2.trans ?_
    show Run false (d + 1) 62 2 _ [] υ2 = _
    have e0 : (nI 0).toNatClampNeg = 0 := nI_clamp (by decide)
    rw [s62_2, oleT (Nat.le_refl _) (by decide), cond_true, inbT (by decide) (by decide), cond_true, k4, aft_v, s62_78, inbT (by decide) (by decide), cond_true, e0, q2]
    by_cases w : la < layM σ p k
    · rw [if_pos (nI_lt w (by omega)), Nat.max_eq_right (by omega)]
    · rw [if_neg (nI_nlt (by omega) (by omega)), Nat.max_eq_left (by omega)]
end CC
