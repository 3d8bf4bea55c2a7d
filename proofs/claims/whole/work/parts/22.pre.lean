/-! THE PURE PROOFS: small laws for the next ops -/
theorem trV_eq {σ τ : PS} {off most m s y : Nat} {off' most' : Nat} (h1 : off' = off) (h2 : most' = most) (h97 : AI τ 97 = AI σ 97) (h98 : AI τ 98 = AI σ 98) (h99 : AI τ 99 = AI σ 99) (h100 : AI τ 100 = AI σ 100) (h2' : AI τ 102 = AI σ 102 ∧ AI τ 103 = AI σ 103 ∧ AI τ 104 = AI σ 104) : ∀ n, trV τ off' most' m s y n = trV σ off most m s y n := by
  subst h1; subst h2
  intro n
  induction n with
  | zero => rfl
  | succ n ih =>
    unfold trV kgA kgM grM
    rw [ih, h97, h98, h99, h100, h2'.1, h2'.2.1, h2'.2.2]
theorem mwB_off {σ τ : PS} {LS : List LAW} {p k y r : Nat} (h : Off σ τ) : mwB τ LS p k y r ↔ mwB σ LS p k y r := by
  unfold mwB mrB mlB
  simp only [grM_off h, layM_off h]
