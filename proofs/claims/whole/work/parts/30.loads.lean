/-! THE PURE PROOFS: loads and notes -/
section LD
variable {d : Nat} {σ : PS}
theorem outN_le {k p l : Nat} (hk : k ≤ 20000) (hp : p ≤ 100) : outN k p l ≤ 20000 := by
  unfold outN
  have h1 : k * p ≤ 20000 * 100 := Nat.mul_le_mul hk hp
  have h2 : k * p / 100 ≤ 20000 := by omega
  have h3 : k * p / 100 * (100 - l) ≤ 20000 * 100 := Nat.mul_le_mul h2 (by omega)
  omega
theorem c246 {l s k p u : Nat} (hd : 1 ≤ d) (hl : l < 60) (hs : s < 5) (hk : k ≤ 20000) (hp : p ≤ 100) (hu : u ≤ 50) (e1 : AI σ 124 l = nI k) (e2 : AI σ 125 (5 * l + s) = nI p) (e3 : AI σ 126 l = nI u) : Run false d 246 0 [some (.ref 85), some (.int (nI l)), some (.int (nI s))] [] σ = some (.inl (some (.int (nI (outN k p u))), σ)) := by
  obtain ⟨d, rfl⟩ := dS hd
  have h1 : k * p ≤ 20000 * 100 := Nat.mul_le_mul hk hp
  have h2 : k * p / 100 ≤ 20000 := by omega
  have h3 : k * p / 100 * (100 - u) ≤ 20000 * 100 := Nat.mul_le_mul h2 (by omega)
  rw [s246_0]
  simp (disch := omega) only [inbT, cond_true, cond_false, nI_clamp, nI_mul, nI_add, e1, e2, e3, oeqF, nI_quo, nI_sub]
  rfl
theorem c247 {l p : Nat} (hd : 1 ≤ d) (hl : l < 60) (hp : p ≤ 100) (e2 : AI σ 125 (5 * l + 4) = nI p) : Run false d 247 0 [some (.ref 85), some (.int (nI l)), none] [] σ = some (.inl (some (.int (nI (grdN p))), σ)) := by
  obtain ⟨d, rfl⟩ := dS hd
  rw [s247_0]
  simp (disch := omega) only [inbT, cond_true, nI_clamp, nI_mul, nI_add, e2]
  unfold grdN
  by_cases q1 : p ≤ 5
  · rw [oltF q1 (by omega), if_pos q1]; rfl
  · rw [oltT (show 5 < p by omega) (by omega), if_neg q1, cond_true]
    by_cases q2 : p ≤ 15
    · rw [oltF q2 (by omega), if_pos q2]; rfl
    · rw [oltT (show 15 < p by omega) (by omega), if_neg q2, cond_true]
      by_cases q3 : p ≤ 40
      · rw [oltF q3 (by omega), if_pos q3]; rfl
      · rw [oltT (show 40 < p by omega) (by omega), if_neg q3, cond_true]
theorem c107 {l s : Nat} (hd : 1 ≤ d) (hl : l < 60) (hs : s < 5) : Run false d 107 0 [some (.ref 60), some (.int (nI l)), some (.int (nI s))] [] σ = some (.inl (some (.int (AI σ 64 (5 * l + s))), σ)) := by
  obtain ⟨d, rfl⟩ := dS hd
  have e : l * 5 + s = 5 * l + s := by omega
  rw [s107_0]
  simp (disch := omega) only [inbT, cond_true, nI_clamp, nI_mul, nI_add, e]
/-- noted so far of a load and a sort -/
noncomputable def nsV (σ : PS) (l s : Int32) : Nat → Int32
  | 0 => nI 0
  | i + 1 => bif obl (AI σ 127 i = l) then (bif obl (AI σ 128 i = s) then (bif obl (AI σ 132 i = nI 0) then nsV σ l s i + AI σ 129 i else nsV σ l s i) else nsV σ l s i) else nsV σ l s i
theorem nsV_c {τ : PS} {l s : Int32} {n : Nat} (h : ∀ i, i < n → AI τ 127 i = AI σ 127 i ∧ AI τ 128 i = AI σ 128 i ∧ AI τ 129 i = AI σ 129 i ∧ AI τ 132 i = AI σ 132 i) : nsV τ l s n = nsV σ l s n := by
  induction n with
  | zero => rfl
  | succ n ih =>
    obtain ⟨h1, h2, h3, h4⟩ := h n (Nat.lt_succ_self n)
    unfold nsV
    rw [ih (fun i hi => h i (by omega)), h1, h2, h3, h4]
theorem c111 {q : Nat} {l s : Int32} (hd : 1 ≤ d) (hq : FI σ 60 1 = nI q) (hq2 : q ≤ 100) (h : ∀ i, i < q → AI σ 66 i = AI σ 127 i ∧ AI σ 67 i = AI σ 128 i ∧ AI σ 68 i = AI σ 129 i ∧ AI σ 65 i = AI σ 132 i) : Run false d 111 0 [some (.ref 60), some (.int l), some (.int s), none, none] [] σ = some (.inl (some (.int (nsV σ l s q)), σ)) := by
  obtain ⟨d, rfl⟩ := dS hd
  rw [s111_0]
  refine (lpU (f := fun j => Run false (d + 1) 111 5 [some (.ref 60), some (.int l), some (.int s), some (.int (nsV σ l s j)), some (.int (nI j))] [] σ) (n := q) (fun j hj => ?_) 0 (Nat.zero_le _)).trans ?_
  · obtain ⟨h1, h2, h3, h4⟩ := h j hj
    rw [s111_5]
    simp (disch := omega) only [hq, oleF, cond_false, inbT, cond_true, nI_clamp, nI_add, h1, h2, h3, h4, nsV]
    cases obl (AI σ 127 j = l)
    · rfl
    · cases obl (AI σ 128 j = s)
      · rfl
      · cases obl (AI σ 132 j = nI 0) <;> rfl
  · rw [s111_5, hq, oleT (Nat.le_refl _) (by omega), cond_true]
/-- the model's sum starts with what is noted now -/
theorem c249_lp {q : Nat} {l s v c : Int32} (hq : FI σ 85 63 = nI q) (hq2 : q ≤ 100) : Run false (d + 1) 249 84 [some (.ref 85), some (.int l), some (.int s), some (.int v), some (.int c), some (.int v), some (.int (nI 0))] [] σ = Run false (d + 1) 249 84 [some (.ref 85), some (.int l), some (.int s), some (.int v), some (.int c), some (.int (nsV σ l s q + v)), some (.int (nI q))] [] σ := by
  have e0 : v = nsV σ l s 0 + v := by
    show v = nI 0 + v
    rw [nI_0, Int32.zero_add]
  have := lpU (f := fun j => Run false (d + 1) 249 84 [some (.ref 85), some (.int l), some (.int s), some (.int v), some (.int c), some (.int (nsV σ l s j + v)), some (.int (nI j))] [] σ) (n := q) (fun j hj => by
    have ea : nsV σ l s j + v + AI σ 129 j = nsV σ l s j + AI σ 129 j + v := by rw [Int32.add_assoc, Int32.add_comm v, ← Int32.add_assoc]
    show Run false (d + 1) 249 84 _ [] σ = _
    rw [s249_84]
    simp (disch := omega) only [hq, oleF, cond_false, inbT, cond_true, nI_clamp, nI_add, nI_z, ea, nsV]
    cases obl (AI σ 127 j = l)
    · rfl
    · cases obl (AI σ 128 j = s)
      · rfl
      · cases obl (AI σ 132 j = nI 0) <;> rfl) 0 (Nat.zero_le _)
  have h2 : Run false (d + 1) 249 84 [some (.ref 85), some (.int l), some (.int s), some (.int v), some (.int c), some (.int (nsV σ l s 0 + v)), some (.int (nI 0))] [] σ = _ := this
  rw [← e0] at h2
  exact h2
theorem c249_end {q : Nat} {l s v c : Int32} (hq : FI σ 85 63 = nI q) (hq2 : q < 100) : Run false (d + 1) 249 84 [some (.ref 85), some (.int l), some (.int s), some (.int v), some (.int c), some (.int v), some (.int (nI 0))] [] σ = aft false (d + 1) 249 217 [some (.ref 85), some (.int l), some (.int s), some (.int v), some (.int c), some (.int (nsV σ l s q + v)), some (.int (nI q))] [.int (nsV σ l s q + v), .int (nI q), .ref 132] (Run false d 246 0 [some (.ref 85), some (.int l), some (.int s)] [] (wAI (wAI (wAI (wAI (wAI σ 127 q l) 128 q s) 129 q v) 130 q c) 131 q (FI σ 85 1))) := by
  rw [c249_lp hq (by omega), s249_84]
  simp (disch := omega) only [hq, oleT, cond_true, inbT, nI_clamp]
theorem cntF_c {f g : Nat → Int32} : ∀ n, (∀ i, i < n → f i = g i) → cntF f n = cntF g n := by
  intro n
  induction n with
  | zero => intro _; rfl
  | succ n ih =>
    intro h
    unfold cntF
    rw [ih (fun i hi => h i (by omega)), h n (Nat.lt_succ_self n)]
end LD
