/-! THE PURE PROOFS: fees as queries; bills -/
theorem opW_of {cls mdl : Nat → PS → Option PO} {σ : PS} {ok : Value → Prop} {code : Nat → Nat} (v : Value) (hv : ok v) (P : PS → Prop) (h1 : ∀ d, ∃ σ1, P σ1 ∧ cls (d + 40) σ = some (.inl (some v, σ1))) (h2 : ∀ σ1 z e, P σ1 → ∃ τ, mdl (e + 40) (wAL σ1 145 0 z) = some (.inl (some v, τ)) ∧ Inv τ ∧ AL τ 145 0 = z ∧ FI τ 85 0 = nI 0 ∧ Kp σ τ) : Op cls mdl σ ok code := by
  intro d e hd he
  obtain ⟨d, rfl⟩ : ∃ z, d = z + 40 := ⟨d - 40, by omega⟩
  obtain ⟨e, rfl⟩ : ∃ z, e = z + 40 := ⟨e - 40, by omega⟩
  obtain ⟨σ1, a1, a2⟩ := h1 d
  exact Or.inl ⟨v, σ1, hv, a2, fun z => h2 σ1 z e a1⟩
theorem mk5 {σ : PS} (hI : IP σ) {n : Nat} (hn : n ≤ 20) : ∀ p, p < n → ∃ j, j < 5 ∧ AI σ 99 p = nI j := by
  intro p hp
  rcases mk_of hI (show p < 20 by omega) with ⟨-, h2, -⟩ | ⟨k, m, h1, h2, h3, -⟩
  · exact ⟨0, by decide, h2⟩
  · exact ⟨k, by omega, h3⟩
theorem feV_c {σ τ : PS} {o : Nat → Option CLS} {y M m n least : Nat} {dec : Nat → Nat → Nat} (h97 : AI τ 97 = AI σ 97) (h98 : AI τ 98 = AI σ 98) (h99 : AI τ 99 = AI σ 99) (h100 : AI τ 100 = AI σ 100) : feV τ o y M m n least dec = feV σ o y M m n least dec := by
  have e1 : (fun s => gsI τ m s n) = fun s => gsI σ m s n := by
    funext s
    exact gsI_c h97 h98 h99 h100 n
  unfold feV
  rw [e1, lyI_c h97 h98 h99 h100]
/-- a bill written on both sides -/
theorem bil_A {σ υ υ' : PS} {i : Nat} {F z : Int64} (hi : i < 410) (hI : Inv σ) (ho : Off σ υ) (hk : Stk (wFI (wAL (wAL υ 83 i F) 145 0 z) 85 0 (nI 0)) υ') : Inv (wAL υ' 110 i F) ∧ AL (wAL υ' 110 i F) 145 0 = z ∧ FI (wAL υ' 110 i F) 85 0 = nI 0 ∧ Kp σ (wAL υ' 110 i F) := by
  have hB : Inv (wAL (wAL σ 83 i F) 110 i F) := by
    obtain ⟨h0, hT, hP, hD, hS, hO, hF, hM, hB, LS, hL⟩ := hI
    refine ⟨h0, hT, hP, hD, hS, hO, hF, hM, ⟨fun j hj => ?_, hB.2⟩, LS, hL⟩
    have := hB.1 j hj
    simp only [AL_l]
    by_cases q : j = i
    · subst q; simp
    · rw [if_neg (by omega), if_neg (by omega), if_neg (by omega), if_neg (by omega)]; exact this
  have hB2 : Inv (wFI (wAL (wAL (wAL σ 83 i F) 110 i F) 145 0 z) 85 0 (nI 0)) := Inv_tn (Inv_o hB)
  have z1 : AL (wAL υ' 110 i F) 145 0 = z := by
    rw [AL_l, if_neg (by omega), stkB hk 145]
    show AL (wAL (wAL υ 83 i F) 145 0 z) 145 0 = z
    rw [AL_l, if_pos ⟨rfl, rfl⟩]
  have x1 : XX υ' = XX σ := hk.1.trans ho.1
  refine ⟨Inv_off (σ := wFI (wAL (wAL (wAL σ 83 i F) 110 i F) 145 0 z) 85 0 (nI 0)) ⟨x1, fun o k q => ⟨?_, ?_⟩, fun o q => ⟨?_, ?_⟩⟩ hB2, z1, ?_, ?_⟩
  · show FI υ' o k = _
    by_cases w : skF o k = true
    · exfalso
      unfold skF at w
      split at w
      · unfold scF at q
        simp only at q
        rw [w, Bool.or_true] at q
        simp only [Bool.true_or] at q
        cases q
      · cases w
    · rw [stkF hk o k (by simpa using w), FI_i, FI_i]
      by_cases u : o = 85 ∧ k = 0
      · rw [if_pos u, if_pos u]
      · rw [if_neg u, if_neg u]
        exact (ho.2.1 o k q).1
  · show FL υ' o k = _
    rw [stkL hk o k]
    exact (ho.2.1 o k q).2
  · show AI υ' o = _
    have w : skA o = false := by
      cases w : skA o with
      | false => rfl
      | true =>
        exfalso
        unfold skA at w
        unfold scA at q
        simp only [Bool.or_eq_true, Bool.or_eq_false_iff] at w q
        rcases w with (w | w) | w <;> simp_all
    rw [stkA hk o w]
    exact (ho.2.2 o q).1
  · funext j
    have e1 : AL υ' o j = AL (wAL (wAL υ 83 i F) 145 0 z) o j := by rw [stkB hk o]; rfl
    have e2 : AL υ o j = AL σ o j := by rw [(ho.2.2 o q).2]
    show AL (wAL υ' 110 i F) o j = AL (wAL (wAL (wAL σ 83 i F) 110 i F) 145 0 z) o j
    rw [AL_l, e1]
    simp only [AL_l, e2]
    repeat' split
    all_goals first | rfl | omega
  · show FI υ' 85 0 = nI 0
    rw [stkF hk 85 0 rfl, FI_q]
  · exact Kp_eq x1 ((stkA hk 999 rfl).trans (offA ho 999 rfl))
theorem i64_b (a b : Int64) : a + (b - a) = b := by
  rw [Int64.add_comm]; exact Int64.sub_add_cancel b a
