/-! THE PURE PROOFS: the cheapest makes: the class lays out -/
def FrP (F A : Nat → Nat → Prop) (σ τ : PS) : Prop := XX τ = XX σ ∧ (∀ o, AL τ o = AL σ o) ∧ (∀ o k, ¬ F o k → FI τ o k = FI σ o k) ∧ (∀ o k, ¬ (F o k ∧ k ≠ 45) → FL τ o k = FL σ o k) ∧ ∀ o j, ¬ A o j → AI τ o j = AI σ o j
noncomputable def kE (σ : PS) (LS : List LAW) (y s p k : Nat) : Int32 := kgM σ (numV (clL LS 2 s y) 100) (numV (clL LS 6 0 y) 1) p k s y
noncomputable def cnE (σ : PS) (y p k : Nat) : Nat := (AI σ 101 (5 * p + k)).toNatClampNeg * (AI σ 102 (41 * p + y)).toNatClampNeg
noncomputable def CellK (σ υ : PS) (LS : List LAW) (y i p k : Nat) : Prop := AI υ 52 (5 * i + k) = b1 (bnG σ LS y (5 * p + k) 0) ∧ AI υ 53 (5 * i + k) = nI (cnE σ y p k) ∧ AI υ 54 (5 * i + k) = nI (layM σ p k) ∧ ∀ s, s < 5 → AI υ 55 (25 * i + 5 * k + s) = kE σ LS y s p k ∧ AI υ 56 (25 * i + 5 * k + s) = grM σ p k s
def F1 (o k : Nat) : Prop := (o = 48 ∧ k = 0) ∨ skF o k = true
def A1 (i o j : Nat) : Prop := skA o = true ∨ (o = 49 ∧ j = i) ∨ (52 ≤ o ∧ o ≤ 54 ∧ 5 * i ≤ j ∧ j < 5 * i + 5) ∨ (55 ≤ o ∧ o ≤ 56 ∧ 25 * i ≤ j ∧ j < 25 * i + 25)
def A2 (o j : Nat) : Prop := (57 ≤ o ∧ o ≤ 58 ∧ j < 5) ∨ (o = 59 ∧ j = 0)
section CB
variable {d y m n i p k : Nat} {LS : List LAW} {σ τ υ : PS} {F A : Nat → Nat → Prop}
theorem frP_r : FrP F A σ σ := ⟨rfl, fun _ => rfl, fun _ _ _ => rfl, fun _ _ _ => rfl, fun _ _ _ => rfl⟩
theorem frP_t (h : FrP F A σ τ) (g : FrP F A τ υ) : FrP F A σ υ := ⟨g.1.trans h.1, fun o => (g.2.1 o).trans (h.2.1 o), fun o k q => (g.2.2.1 o k q).trans (h.2.2.1 o k q), fun o k q => (g.2.2.2.1 o k q).trans (h.2.2.2.1 o k q), fun o j q => (g.2.2.2.2 o j q).trans (h.2.2.2.2 o j q)⟩
theorem frP_m {F' A' : Nat → Nat → Prop} (h : FrP F A σ τ) (hF : ∀ o k, F o k → F' o k) (hA : ∀ o j, A o j → A' o j) : FrP F' A' σ τ := ⟨h.1, h.2.1, fun o k q => h.2.2.1 o k (fun x => q (hF o k x)), fun o k q => h.2.2.2.1 o k (fun x => q ⟨hF o k x.1, x.2⟩), fun o j q => h.2.2.2.2 o j (fun x => q (hA o j x))⟩
theorem frP_stk (h : Stk σ τ) (hF : ∀ o k, skF o k = true → F o k) (hA : ∀ o j, skA o = true → A o j) : FrP F A σ τ := by
  refine ⟨h.1, fun o => stkB h o, fun o k q => stkF h o k ?_, fun o k _ => stkL h o k, fun o j q => ?_⟩
  · cases e : skF o k
    · rfl
    · exact absurd (hF o k e) q
  · rw [stkA h o]
    cases e : skA o
    · rfl
    · exact absurd (hA o j e) q
theorem frP_ai {o j : Nat} {v : Int32} (h : FrP F A σ τ) (hA : A o j) : FrP F A σ (wAI τ o j v) := frP_t h ⟨rfl, fun _ => rfl, fun _ _ _ => rfl, fun _ _ _ => rfl, fun o' j' q => AI_n (by
  by_cases w : o' = o ∧ j' = j
  · obtain ⟨rfl, rfl⟩ := w; exact absurd hA q
  · omega)⟩
theorem frP_fi {o k : Nat} {v : Int32} (h : FrP F A σ τ) (hF : F o k) : FrP F A σ (wFI τ o k v) := frP_t h ⟨rfl, fun _ => rfl, fun o' k' q => FI_n (by
  by_cases w : o' = o ∧ k' = k
  · obtain ⟨rfl, rfl⟩ := w; exact absurd hF q
  · omega), fun _ _ _ => rfl, fun _ _ _ => rfl⟩
theorem frP_fl {o k : Nat} {v : Int64} (h : FrP F A σ τ) (hF : F o k) (h45 : k ≠ 45) : FrP F A σ (wFL τ o k v) := frP_t h ⟨rfl, fun _ => rfl, fun _ _ _ => rfl, fun o' k' q => FL_n (by
  by_cases w : o' = o ∧ k' = k
  · obtain ⟨rfl, rfl⟩ := w; exact absurd ⟨hF, h45⟩ q
  · omega), fun _ _ _ => rfl⟩
theorem frP_off (h : FrP F A σ τ) (hF : ∀ o k, F o k → scF o k = true) (hA : ∀ o j, A o j → scA o = true) : Off σ τ := by
  refine ⟨h.1, fun o k q => ⟨h.2.2.1 o k fun x => ?_, h.2.2.2.1 o k fun x => ?_⟩, fun o q => ⟨?_, h.2.1 o⟩⟩
  · have := hF o k x
    rw [q] at this; cases this
  · have := hF o k x.1
    rw [q] at this; cases this
  · funext j
    refine h.2.2.2.2 o j fun x => ?_
    have := hA o j x
    rw [q] at this; cases this
theorem sk_sc {o k : Nat} (h : skF o k = true) : scF o k = true := by
  unfold skF at h
  split at h
  · rw [Bool.and_eq_true] at h
    have h1 := Nat.le_of_ble_eq_true h.1
    have h2 := Nat.le_of_ble_eq_true h.2
    have : k = 23 ∨ k = 24 ∨ k = 25 ∨ k = 26 ∨ k = 27 := by omega
    rcases this with rfl | rfl | rfl | rfl | rfl <;> rfl
  · cases h
theorem skA_sc {o : Nat} (h : skA o = true) : scA o = true := by
  unfold skA at h
  rw [Bool.or_eq_true, Bool.or_eq_true] at h
  rcases h with (h | h) | h <;> (rw [Nat.eq_of_beq_eq_true h]; rfl)
theorem skA_n {o : Nat} (h : o ≠ 10 ∧ o ≠ 11 ∧ o ≠ 96) : skA o = false := by
  unfold skA
  rw [Nbf h.1, Nbf h.2.1, Nbf h.2.2]; rfl
theorem skF_n {o k : Nat} (h : o ≠ 85) : skF o k = false := by
  unfold skF
  split
  · exact absurd rfl h
  · rfl
theorem F1_sc {o k : Nat} (h : F1 o k) : scF o k = true := by
  rcases h with ⟨rfl, rfl⟩ | h
  · rfl
  · exact sk_sc h
theorem A1_sc {o j : Nat} (h : A1 i o j) : scA o = true := by
  rcases h with h | ⟨rfl, -⟩ | ⟨a, b, -⟩ | ⟨a, b, -⟩
  · exact skA_sc h
  · rfl
  · have : o = 52 ∨ o = 53 ∨ o = 54 := by omega
    rcases this with rfl | rfl | rfl <;> rfl
  · have : o = 55 ∨ o = 56 := by omega
    rcases this with rfl | rfl <;> rfl
theorem A2_sc {o j : Nat} (h : A2 o j) : scA o = true := by
  rcases h with ⟨a, b, -⟩ | ⟨rfl, -⟩
  · have : o = 57 ∨ o = 58 := by omega
    rcases this with rfl | rfl <;> rfl
  · rfl
theorem kgM_off {off most s : Nat} (h : Off σ τ) : kgM τ off most p k s y = kgM σ off most p k s y := by
  unfold kgM
  rw [grM_off h, offA h 102 rfl, offA h 103 rfl, offA h 104 rfl]
theorem bnG_off {g : Nat} (h : Off σ τ) : bnG τ LS y g i = bnG σ LS y g i := by
  unfold bnG layG
  rw [offA h 100 rfl]
theorem layG_off {g : Nat} (h : Off σ τ) : layG τ g = layG σ g := by
  unfold layG
  rw [offA h 100 rfl]
theorem cn_le (hP : IP σ) (hp : p < 20) (hk : k < 5) (hy : y ≤ 40) : cnE σ y p k ≤ 1000000 ∧ AI σ 25 (5 * p + k) * AI σ 21 (41 * p + y) = nI (cnE σ y p k) := by
  obtain ⟨-, -, h3, -, h5⟩ := hP
  obtain ⟨e1, a, -, ha, e2⟩ := h5 (5 * p + k) (by omega)
  obtain ⟨e3, -, s, b, hb, hs, e4, -⟩ := h3 (41 * p + y) (by omega)
  have e5 : cnE σ y p k = a * s := by
    unfold cnE
    rw [e2, e4, nI_clamp (by omega), nI_clamp (by omega)]
  refine ⟨?_, ?_⟩
  · rw [e5]; exact Nat.mul_le_mul ha hs
  · rw [e5, e1, e2, e3, e4, nI_mul]
theorem c129 (hd : 1 ≤ d) (hP : IP σ) (hp : p < 20) (hk : k < 5) (hy : y ≤ 40) : Run false d 129 0 [some (.ref 17), some (.int (nI (5 * p + k))), some (.int (nI y))] [] σ = some (.inl (some (.int (nI (cnE σ y p k))), σ)) := by
  obtain ⟨d, rfl⟩ := dS hd
  have e : (5 * p + k) / 5 * 41 + y = 41 * p + y := by omega
  rw [s129_0, inbT (by omega) (by decide), cond_true, oeqF (by decide) (by decide) (by decide), cond_false, nI_quo (by omega) (by decide), nI_mul, nI_add, e, inbT (by omega) (by decide), cond_true, nI_clamp (by omega), nI_clamp (by omega), (cn_le hP hp hk hy).2]
theorem frP_oA {o j : Nat} (h : FrP F (A1 i) σ τ) (ho : ¬ (o = 10 ∨ o = 11 ∨ o = 96)) (h1 : ¬ ((o = 49 ∧ j = i) ∨ (52 ≤ o ∧ o ≤ 54 ∧ 5 * i ≤ j ∧ j < 5 * i + 5) ∨ (55 ≤ o ∧ o ≤ 56 ∧ 25 * i ≤ j ∧ j < 25 * i + 25))) : AI τ o j = AI σ o j := h.2.2.2.2 o j (by
  rintro (h | h)
  · rw [skA_n (by omega)] at h; cases h
  · exact h1 h)
/-- one make of a packet that is chosen for -/
theorem c61_k {a3 : Nat} {z6 : Option Value} (hd : 5 ≤ d) (hy : y ≤ 40) (hC : LC LS σ) (hP : IP σ) (hn : FI σ 85 30 = nI n) (hn2 : n ≤ 20) (hp : p < n) (hi : i < 5) (hk : k < 5) (hmk : ¬ AI σ 98 p = nI 0) (ho : Off σ υ) (h98 : ∃ M, AI σ 98 p = nI M ∧ k < M ∧ M ≤ 5) (ha : a3 = 5 * i) {z5 : Option Value} : ∃ υ', FrP F1 (A1 i) υ υ' ∧ FI υ' 48 0 = FI υ 48 0 ∧ AI υ' 49 i = AI υ 49 i ∧ (∀ k', k' < k → CellK σ υ LS y i p k' → CellK σ υ' LS y i p k') ∧ CellK σ υ' LS y i p k ∧ ∃ z5' z6', Run false (d + 1) 61 20 [some (.ref 0), some (.int (nI p)), some (.int (nI y)), some (.int (nI a3)), some (.int (nI k)), z5, z6] [] υ = Run false (d + 1) 61 20 [some (.ref 0), some (.int (nI p)), some (.int (nI y)), some (.int (nI a3)), some (.int (nI (k + 1))), z5', z6'] [] υ' := by
  obtain ⟨M, e98, hkM, hM5⟩ := h98
  subst ha
  have e19 : AI υ 19 p = nI M := by rw [offA ho 19 rfl]; exact (hP.2.1 p (by omega)).2.2.1.trans e98
  obtain ⟨t, t1, t2, t3, t4⟩ := trips_of hP hn hn2 hp hy
  obtain ⟨υ1, k1, k2⟩ := c59 (d := d) (g := 5 * p + k) (by omega) (IP_off ho hP) (by omega) hy (LC_off ho hC)
  rw [bnG_off ho] at k2
  have o1 := off_t ho (stk_off k1)
  have o2 : Off σ (wAI υ1 52 (5 * i + k) (b1 (bnG σ LS y (5 * p + k) 0))) := off_ai o1 rfl
  have k3 := c129 (d := d) (p := p) (k := k) (by omega) (IP_off o2 hP) (by omega) hk hy
  have e3 : cnE (wAI υ1 52 (5 * i + k) (b1 (bnG σ LS y (5 * p + k) 0))) y p k = cnE σ y p k := by unfold cnE; rw [offA o2 101 rfl, offA o2 102 rfl]
  rw [e3] at k3
  have o3 : Off σ (wAI (wAI υ1 52 (5 * i + k) (b1 (bnG σ LS y (5 * p + k) 0))) 53 (5 * i + k) (nI (cnE σ y p k))) := off_ai o2 rfl
  have k4 := c126 (d := d) (g := 5 * p + k) (by omega) (IP_off o3 hP) (by omega)
  rw [layG_off o3, ← layM_G hmk] at k4
  have o4 : Off σ (wAI (wAI (wAI υ1 52 (5 * i + k) (b1 (bnG σ LS y (5 * p + k) 0))) 53 (5 * i + k) (nI (cnE σ y p k))) 54 (5 * i + k) (nI (layM σ p k))) := off_ai o3 rfl
  obtain ⟨υ2, ⟨q1, q2, q3, q4, q5, q6⟩, r2⟩ := lpS (P := fun s υ' => Off σ υ' ∧ FrP F1 (A1 i) υ υ' ∧ AI υ' 52 (5 * i + k) = b1 (bnG σ LS y (5 * p + k) 0) ∧ (AI υ' 53 (5 * i + k) = nI (cnE σ y p k) ∧ AI υ' 54 (5 * i + k) = nI (layM σ p k)) ∧ (∀ s', s' < s → AI υ' 55 (25 * i + 5 * k + s') = kE σ LS y s' p k ∧ AI υ' 56 (25 * i + 5 * k + s') = grM σ p k s') ∧ ((∀ o j, ¬ (55 ≤ o ∧ o ≤ 56 ∧ 25 * i + 5 * k ≤ j ∧ j < 25 * i + 5 * k + 5) → AI υ' o j = AI (wAI (wAI (wAI υ1 52 (5 * i + k) (b1 (bnG σ LS y (5 * p + k) 0))) 53 (5 * i + k) (nI (cnE σ y p k))) 54 (5 * i + k) (nI (layM σ p k))) o j) ∧ ∀ o k, FI υ' o k = FI υ1 o k)) (R := fun s υ' => Run false (d + 1) 61 107 [some (.ref 0), some (.int (nI p)), some (.int (nI y)), some (.int (nI (5 * i))), some (.int (nI k)), some (.int (nI (5 * p + k))), some (.int (nI s))] [] υ') (n := 5) (fun s υ' hs hp' => by
    obtain ⟨q1, q2, q3, q4, q5, q6, q7⟩ := hp'
    have k5 := c54 (d := d) (p := p) (k := k) (s := s) (y := y) (t := t) (by omega) (IP_off q1 hP) (by omega) hk (by omega) hy t1 t2 (by rw [offA q1 104 rfl]; exact t3) (by rw [offA q1 23 rfl]; exact t4) (by rw [offA q1 98 rfl]; exact hmk) (LC_off q1 hC)
    rw [kgM_off q1] at k5
    have q8 : Off σ (wAI υ' 55 (25 * i + 5 * k + s) (kE σ LS y s p k)) := off_ai q1 rfl
    have k6 := c125 (d := d) (g := 5 * p + k) (s := s) (by omega) (IP_off q8 hP) (by omega) (by omega)
    have e6 : AI (wAI υ' 55 (25 * i + 5 * k + s) (kE σ LS y s p k)) 100 (5 * (5 * p + k) + s) = grM σ p k s := by
      rw [offA q8 100 rfl]; unfold grM; rw [obl_f hmk]; rfl
    rw [e6] at k6
    have e7 : (5 * i + k) * 5 + s = 25 * i + 5 * k + s := by omega
    refine ⟨wAI (wAI υ' 55 (25 * i + 5 * k + s) (kE σ LS y s p k)) 56 (25 * i + 5 * k + s) (grM σ p k s), ⟨off_ai q8 rfl, frP_ai (frP_ai q2 (Or.inr (Or.inr (Or.inr (by omega))))) (Or.inr (Or.inr (Or.inr (by omega)))), ?_, ⟨?_, ?_⟩, fun s' hs' => ?_, fun o j hj => ?_, fun o k => q7 o k⟩, ?_⟩
    · rw [AI_n (by omega), AI_n (by omega)]; exact q3
    · rw [AI_n (by omega), AI_n (by omega)]; exact q4.1
    · rw [AI_n (by omega), AI_n (by omega)]; exact q4.2
    · rcases Nat.lt_or_ge s' s with w | w
      · rw [AI_n (by omega), AI_n (by omega), AI_n (by omega), AI_n (by omega)]; exact q5 s' w
      · have : s' = s := by omega
        subst this
        rw [AI_n (by omega), AI_q, AI_q]; exact ⟨rfl, rfl⟩
    · rw [AI_n (by omega), AI_n (by omega)]; exact q6 o j hj
    · show Run false (d + 1) 61 107 _ [] υ' = _
      rw [s61_107, oleF hs (by decide), cond_false, k5, aft_v, s61_138, nI_add, nI_mul, nI_add, e7, inbT (by omega) (by decide), cond_true, nI_clamp (by omega)]
      show aft _ _ _ _ _ _ (Run false d 125 0 _ [] (wAI υ' 55 (25 * i + 5 * k + s) (kE σ LS y s p k))) = _
      rw [k6, aft_v, s61_166, inbT (by omega) (by decide), cond_true, nI_clamp (by omega), nI_add]) 0 _ (Nat.zero_le _) ⟨o4, frP_ai (frP_ai (frP_ai (frP_stk k1 (fun o k h => Or.inr h) (fun o j h => Or.inl h)) (Or.inr (Or.inr (Or.inl (by omega))))) (Or.inr (Or.inr (Or.inl (by omega))))) (Or.inr (Or.inr (Or.inl (by omega)))), by rw [AI_n (by omega), AI_n (by omega), AI_q], ⟨by rw [AI_n (by omega), AI_q], AI_q⟩, fun s' hs' => absurd hs' (Nat.not_lt_zero s'), fun o j hj => rfl, fun o k => rfl⟩
  have e5 : p * 5 + k = 5 * p + k := by omega
  have key : ∀ o j, 49 ≤ o → o ≤ 56 → ¬ (52 ≤ o ∧ o ≤ 54 ∧ j = 5 * i + k) → ¬ (55 ≤ o ∧ 25 * i + 5 * k ≤ j ∧ j < 25 * i + 5 * k + 5) → AI υ2 o j = AI υ o j := fun o j a b c e => by
    rw [q6.1 o j (by omega), AI_n (by omega), AI_n (by omega), AI_n (by omega), stkA k1 o (skA_n (by omega))]
  refine ⟨υ2, q2, ?_, ?_, fun k' hk' hc => ?_, ⟨q3, q4.1, q4.2, q5⟩, some (.int (nI (5 * p + k))), some (.int (nI 5)), ?_⟩
  · rw [q6.2, stkF k1 48 0 rfl]
  · exact key 49 i (by omega) (by omega) (by omega) (by omega)
  · obtain ⟨c1, c2, c3, c4⟩ := hc
    refine ⟨(key 52 _ (by omega) (by omega) (by omega) (by omega)).trans c1, (key 53 _ (by omega) (by omega) (by omega) (by omega)).trans c2, (key 54 _ (by omega) (by omega) (by omega) (by omega)).trans c3, fun s hs => ⟨(key 55 _ (by omega) (by omega) (by omega) (by omega)).trans (c4 s hs).1, (key 56 _ (by omega) (by omega) (by omega) (by omega)).trans (c4 s hs).2⟩⟩
  · have r2' : Run false (d + 1) 61 107 [some (.ref 0), some (.int (nI p)), some (.int (nI y)), some (.int (nI (5 * i))), some (.int (nI k)), some (.int (nI (5 * p + k))), some (.int (nI 0))] [] (wAI (wAI (wAI υ1 52 (5 * i + k) (b1 (bnG σ LS y (5 * p + k) 0))) 53 (5 * i + k) (nI (cnE σ y p k))) 54 (5 * i + k) (nI (layM σ p k))) = Run false (d + 1) 61 107 [some (.ref 0), some (.int (nI p)), some (.int (nI y)), some (.int (nI (5 * i))), some (.int (nI k)), some (.int (nI (5 * p + k))), some (.int (nI 5))] [] υ2 := r2
    rw [s61_20, inbT (show p < 20 by omega) (by decide), cond_true, nI_clamp (by omega), e19, oleF hkM (by omega), cond_false, nI_mul, nI_add, nI_add, e5, k2, aft_v, s61_60, nI_add, inbT (by omega) (by decide), cond_true, b1_is, cond_true, nI_clamp (by omega), k3, aft_v, s61_82, nI_add, inbT (by omega) (by decide), cond_true, nI_clamp (by omega), k4, aft_v, s61_103, inbT (by omega) (by decide), cond_true, nI_clamp (by omega), r2', s61_107, oleT (Nat.le_refl _) (by decide), cond_true, nI_add]
end CB
