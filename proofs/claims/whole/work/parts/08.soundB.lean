/-! SOUNDNESS, B: locals, fields, arrays -/
def asl (G : Nat × Nat × Nat × Nat) : Nat → List (Option Value) → List (Nat × Value)
  | _, [] => []
  | i, some v :: t => (i, cz G v) :: asl G (i + 1) t
  | i, none :: t => asl G (i + 1) t
section SB
variable {G : Nat × Nat × Nat × Nat}
theorem asl_of {v : Value} : ∀ {ls : List (Option Value)} {i j : Nat}, lget ls j = some v → (i + j, cz G v) ∈ asl G i ls := by
  intro ls
  induction ls with
  | nil => intro i j h; cases h
  | cons x t ih =>
    intro i j h
    cases j with
    | zero =>
      have hx : x = some v := h
      subst hx
      exact List.mem_cons_self
    | succ j =>
      have h2 := ih (i := i + 1) (j := j) h
      rw [show i + (j + 1) = i + 1 + j by omega]
      cases x with
      | none => exact h2
      | some w => exact List.mem_cons_of_mem _ h2
theorem asl_to {q : Nat × Value} : ∀ {ls : List (Option Value)} {i : Nat}, q ∈ asl G i ls → ∃ (j : Nat) (v : Value), q = (i + j, cz G v) ∧ lget ls j = some v := by
  intro ls
  induction ls with
  | nil => intro i h; cases h
  | cons x t ih =>
    intro i h
    cases x with
    | none =>
      obtain ⟨j, v, h1, h2⟩ := ih (i := i + 1) h
      exact ⟨j + 1, v, by rw [h1, show i + 1 + j = i + (j + 1) by omega], h2⟩
    | some w =>
      rcases List.mem_cons.mp h with h | h
      · exact ⟨0, w, h, rfl⟩
      · obtain ⟨j, v, h1, h2⟩ := ih (i := i + 1) h
        exact ⟨j + 1, v, by rw [h1, show i + 1 + j = i + (j + 1) by omega], h2⟩
/-- the machine's locals hold the pure ones -/
def LV (G : Nat × Nat × Nat × Nat) (lsM : Array Slot) (n : Nat) (ls : List (Option Value)) : Prop := lv_has lsM n (asl G 0 ls)
theorem lv_fewer {lsM : Array Slot} {n : Nat} {l l' : List (Nat × Value)} (h : lv_has lsM n l) (hs : ∀ q ∈ l', q ∈ l) : lv_has lsM n l' := ⟨h.1, h.2.1, fun q hq => h.2.2 q (hs q hq)⟩
theorem LV_at {lsM : Array Slot} {n j : Nat} {ls : List (Option Value)} {v : Value} (h : LV G lsM n ls) (hj : lget ls j = some v) : lsM[j]? = some (.val (cz G v)) := by
  have := h.2.2 _ (asl_of (i := 0) hj)
  rw [Nat.zero_add] at this
  exact this
theorem lget_ne {v : Option Value} : ∀ {ls : List (Option Value)} {i j : Nat}, j ≠ i → lget (lset ls i v) j = lget ls j := by
  intro ls
  induction ls with
  | nil => intro i j _; rfl
  | cons x t ih =>
    intro i j h
    cases i with
    | zero =>
      cases j with
      | zero => exact absurd rfl h
      | succ j => rfl
    | succ i =>
      cases j with
      | zero => rfl
      | succ j => exact ih (fun q => h (by rw [q]))
theorem lget_eq {v w : Option Value} {z : Value} : ∀ {ls : List (Option Value)} {i : Nat}, lget (lset ls i v) i = some z → v = some z := by
  intro ls
  induction ls with
  | nil => intro i h; cases h
  | cons x t ih =>
    intro i h
    cases i with
    | zero => exact h
    | succ i => exact ih h
theorem lget_kl {ls : List (Option Value)} {i j : Nat} {z : Value} (h : lget (lkl ls i) j = some z) : lget ls j = some z ∧ ¬ (j + 1 = i ∧ z.category = 2) := by
  cases i with
  | zero => exact ⟨h, fun q => by omega⟩
  | succ i =>
    unfold lkl at h
    dsimp only at h
    split at h
    · by_cases e : j = i
      · subst e
        cases lget_eq (w := none) h
      · rw [lget_ne e] at h
        exact ⟨h, fun q => e (by omega)⟩
    · by_cases e : j = i
      · subst e
        cases lget_eq (w := none) h
      · rw [lget_ne e] at h
        exact ⟨h, fun q => e (by omega)⟩
    · rename_i h1 h2
      refine ⟨h, fun q => ?_⟩
      have e : j = i := by omega
      subst e
      cases z with
      | long x => exact h1 _ h
      | double x => exact h2 _ h
      | _ => exact absurd q.2 (show ¬ (1 : Nat) = 2 by decide)
theorem cz_cat {v : Value} : (cz G v).category = v.category := by cases v <;> rfl
theorem LV_st1 {lsM : Array Slot} {n i : Nat} {ls : List (Option Value)} {v : Value} (h : lv_has lsM n ((i, cz G v) :: (asl G 0 ls).filter (fun q => !(q.1 == i) && !(q.1 + 1 == i && q.2.category == 2)))) : LV G lsM n (lst1 ls i v) := by
  refine lv_fewer h fun q hq => ?_
  obtain ⟨j, w, rfl, hj⟩ := asl_to hq
  rw [Nat.zero_add]
  by_cases e : j = i
  · subst e
    cases lget_eq (w := none) hj
    exact List.mem_cons_self
  · unfold lst1 at hj
    rw [lget_ne e] at hj
    obtain ⟨h1, h2⟩ := lget_kl hj
    refine List.mem_cons_of_mem _ (List.mem_filter.mpr ⟨by have := asl_of (G := G) (i := 0) h1; rwa [Nat.zero_add] at this, ?_⟩)
    simp only [cz_cat, Bool.and_eq_true, Bool.not_eq_true', beq_eq_false_iff_ne, Bool.and_eq_false_imp, beq_iff_eq]
    exact ⟨e, fun a b => h2 ⟨a, b⟩⟩
theorem LV_st2 {lsM : Array Slot} {n i : Nat} {ls : List (Option Value)} {v : Value} (h : lv_has lsM n ((i, cz G v) :: (asl G 0 ls).filter (fun q => !(q.1 == i) && (!(q.1 == i + 1) && !(q.1 + 1 == i && q.2.category == 2))))) : LV G lsM n (lst2 ls i v) := by
  refine lv_fewer h fun q hq => ?_
  obtain ⟨j, w, rfl, hj⟩ := asl_to hq
  rw [Nat.zero_add]
  unfold lst2 at hj
  by_cases e2 : j = i + 1
  · subst e2
    cases lget_eq (w := none) hj
  · rw [lget_ne e2] at hj
    by_cases e : j = i
    · subst e
      cases lget_eq (w := none) hj
      exact List.mem_cons_self
    · rw [lget_ne e] at hj
      obtain ⟨h1, h2⟩ := lget_kl hj
      refine List.mem_cons_of_mem _ (List.mem_filter.mpr ⟨by have := asl_of (G := G) (i := 0) h1; rwa [Nat.zero_add] at this, ?_⟩)
      simp only [cz_cat, Bool.and_eq_true, Bool.not_eq_true', beq_eq_false_iff_ne, Bool.and_eq_false_imp, beq_iff_eq]
      exact ⟨e, e2, fun a b => h2 ⟨a, b⟩⟩
theorem LV_none {lsM : Array Slot} {n i : Nat} {ls : List (Option Value)} (h : LV G lsM n ls) : LV G lsM n (lset ls i none) := by
  refine lv_fewer h fun q hq => ?_
  obtain ⟨j, w, rfl, hj⟩ := asl_to hq
  by_cases e : j = i
  · subst e
    cases lget_eq (w := none) hj
  · rw [lget_ne e] at hj
    exact asl_of hj
end SB
