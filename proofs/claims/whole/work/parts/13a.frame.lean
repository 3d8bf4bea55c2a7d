/-! THE PURE PROOFS: a narrower frame: the stacks of values, the facts of a clause -/
def skF (o k : Nat) : Bool := match o with
  | 85 => Nat.ble 23 k && Nat.ble k 27
  | _ => false
def skA (o : Nat) : Bool := Nat.beq o 10 || Nat.beq o 11 || Nat.beq o 96
def Stk (σ τ : PS) : Prop := XX τ = XX σ ∧ (∀ o k, skF o k = false → FI τ o k = FI σ o k) ∧ (∀ o k, FL τ o k = FL σ o k) ∧ (∀ o, skA o = false → AI τ o = AI σ o) ∧ ∀ o, AL τ o = AL σ o
theorem stk_r {σ : PS} : Stk σ σ := ⟨rfl, fun _ _ _ => rfl, fun _ _ => rfl, fun _ _ => rfl, fun _ => rfl⟩
theorem stk_t {σ τ υ : PS} (h : Stk σ τ) (g : Stk τ υ) : Stk σ υ := ⟨g.1.trans h.1, fun o k q => (g.2.1 o k q).trans (h.2.1 o k q), fun o k => (g.2.2.1 o k).trans (h.2.2.1 o k), fun o q => (g.2.2.2.1 o q).trans (h.2.2.2.1 o q), fun o => (g.2.2.2.2 o).trans (h.2.2.2.2 o)⟩
theorem stk_fi {σ τ : PS} {o k : Nat} {v : Int32} (h : Stk σ τ) (q : skF o k = true) : Stk σ (wFI τ o k v) := by
  refine stk_t h ⟨rfl, fun o' k' q' => ?_, fun _ _ => rfl, fun _ _ => rfl, fun _ => rfl⟩
  rw [FI_i, if_neg]
  rintro ⟨rfl, rfl⟩
  rw [q] at q'; cases q'
theorem stk_ai {σ τ : PS} {o k : Nat} {v : Int32} (h : Stk σ τ) (q : skA o = true) : Stk σ (wAI τ o k v) := by
  refine stk_t h ⟨rfl, fun _ _ _ => rfl, fun _ _ => rfl, fun o' q' => ?_, fun _ => rfl⟩
  funext j
  rw [AI_i, if_neg]
  rintro ⟨rfl, rfl⟩
  rw [q] at q'; cases q'
theorem stkF {σ τ : PS} (h : Stk σ τ) (o k : Nat) (q : skF o k = false) : FI τ o k = FI σ o k := h.2.1 o k q
theorem stkL {σ τ : PS} (h : Stk σ τ) (o k : Nat) : FL τ o k = FL σ o k := h.2.2.1 o k
theorem stkA {σ τ : PS} (h : Stk σ τ) (o : Nat) (q : skA o = false) : AI τ o = AI σ o := h.2.2.2.1 o q
theorem stkB {σ τ : PS} (h : Stk σ τ) (o : Nat) : AL τ o = AL σ o := h.2.2.2.2 o
theorem stk_off {σ τ : PS} (h : Stk σ τ) : Off σ τ := by
  refine ⟨h.1, fun o k q => ⟨h.2.1 o k ?_, h.2.2.1 o k⟩, fun o q => ⟨h.2.2.2.1 o ?_, h.2.2.2.2 o⟩⟩
  · cases e : skF o k with
    | false => rfl
    | true =>
      exfalso
      unfold skF at e
      split at e
      · unfold scF at q
        simp only at q
        rw [e, Bool.or_true] at q
        simp only [Bool.true_or] at q
        cases q
      · cases e
  · cases e : skA o with
    | false => rfl
    | true =>
      exfalso
      unfold skA at e
      unfold scA at q
      simp only [Bool.or_eq_true, Bool.or_eq_false_iff] at e q
      rcases e with (e | e) | e
      · simp_all
      · simp_all
      · simp_all
