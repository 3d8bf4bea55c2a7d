/-! SOUNDNESS, H: calls of one's own methods: words, arguments, the callee's first frame -/
theorem mt_1 : (List.range 306).all (fun k => isC (m_p1 k) (2, k, 0, 0, 0)) = true := by decide +kernel
theorem mt_2 : (List.range 307).all (fun k => Nat.ble (m_L k) 60 && Nat.ble (m_ci k) 31) = true := by decide +kernel
theorem mt_3 : (List.range 32).all (fun c => plainName (clN c) && (decide (clN c ≠ "java/lang/invoke/MethodHandle") && decide (clN c ≠ "java/lang/invoke/VarHandle"))) = true := by decide +kernel
theorem mt_4 : (List.range 306).all (fun k => decide ((parseMethodDescriptor (m_ds k)).map (fun d => d.parameters.length) = some (m_na k))) = true := by decide +kernel
theorem good_mw (k : Nat) : goodWord (m_w k) = true := by
  unfold m_w
  split <;> rfl
theorem mw_in {k : Nat} (h : k < 306) : m_w k ∈ gw := by
  have h1 := List.all_eq_true.mp mt_1 k (List.mem_range.mpr h)
  exact gw_C (x := (2, k, 0, 0, 0)) h1 (Nat.le_of_ble_eq_true rfl) (good_mw k)
theorem gw_good {w : Cond} (h : w ∈ gw) : (w.onTables && w.keeps) = true ∨ ∃ ty, w = .arrayClass ty := good_of_word (List.mem_filter.mp h).2
theorem m_own_plain {k : Nat} (h : k < 307) : plainName (m_own k) = true ∧ m_own k ≠ "java/lang/invoke/MethodHandle" ∧ m_own k ≠ "java/lang/invoke/VarHandle" := by
  have h2 := List.all_eq_true.mp mt_2 k (List.mem_range.mpr h)
  simp only [Bool.and_eq_true, Nat.ble_eq] at h2
  have h3 := List.all_eq_true.mp mt_3 (m_ci k) (List.mem_range.mpr (by omega))
  simp only [Bool.and_eq_true, decide_eq_true_eq] at h3
  rw [own_ci h]
  exact h3
theorem m_par {k : Nat} (h : k < 306) : (parseMethodDescriptor (m_ds k)).map (fun d => d.parameters.length) = some (m_na k) :=
  of_decide_eq_true (List.all_eq_true.mp mt_4 k (List.mem_range.mpr h))
theorem popn_eq : ∀ {n : Nat} {acc st as t : List Value}, popn n acc st = some (as, t) → ∃ l, as = l ++ acc ∧ l.length = n ∧ st = l.reverse ++ t := by
  intro n
  induction n with
  | zero => intro acc st as t h; cases h; exact ⟨[], rfl, rfl, rfl⟩
  | succ n ih =>
    intro acc st as t h
    cases st with
    | nil => cases h
    | cons v st =>
      obtain ⟨l, h1, h2, h3⟩ := ih (show popn n (v :: acc) st = some (as, t) from h)
      exact ⟨l ++ [v], by rw [h1]; simp, by simp [h2], by rw [h3]; simp⟩
section SH
variable {G : Nat × Nat × Nat × Nat}
theorem cats_eq : ∀ (t : List Value), ((t.map (cz G)).map fun v => v.category).sum = cats t := by
  intro t
  induction t with
  | nil => rfl
  | cons v t ih =>
    rw [List.map_cons, List.map_cons, List.sum_cons, ih]
    cases v <;> exact Nat.add_comm _ _
theorem sl_len : ∀ (as : List Value), (lg_sl (as.map (cz G))).length = (argl as).length := by
  intro as
  induction as with
  | nil => rfl
  | cons v t ih =>
    unfold lg_sl at ih ⊢
    rw [List.map_cons, List.flatMap_cons, List.length_append, ih]
    cases v <;> first
      | exact Nat.add_comm 2 _
      | exact Nat.add_comm 1 _
theorem sl_at : ∀ (as : List Value) (j : Nat) (v : Value), lget (argl as) j = some v → (lg_sl (as.map (cz G)))[j]? = some (.val (cz G v)) := by
  intro as
  induction as with
  | nil => intro j v h; cases h
  | cons x t ih =>
    intro j v h
    have two : ∀ (y : Slot), lg_sl ((x :: t).map (cz G)) = .val (cz G x) :: y :: lg_sl (t.map (cz G)) → argl (x :: t) = some x :: none :: argl t → (lg_sl ((x :: t).map (cz G)))[j]? = some (.val (cz G v)) := by
      intro y e1 e2
      rw [e1]
      rw [e2] at h
      match j, h with
      | 0, h => cases h; rfl
      | 1, h => cases h
      | j + 2, h => exact ih j v h
    have one : lg_sl ((x :: t).map (cz G)) = .val (cz G x) :: lg_sl (t.map (cz G)) → argl (x :: t) = some x :: argl t → (lg_sl ((x :: t).map (cz G)))[j]? = some (.val (cz G v)) := by
      intro e1 e2
      rw [e1]
      rw [e2] at h
      match j, h with
      | 0, h => cases h; rfl
      | j + 1, h => exact ih j v h
    cases x <;> first
      | exact two _ rfl rfl
      | exact one rfl rfl
theorem padl_get : ∀ (n : Nat) (l : List (Option Value)) (j : Nat) (v : Value), lget (padl n l) j = some v → lget l j = some v ∧ j < n := by
  intro n
  induction n with
  | zero => intro l j v h; cases h
  | succ n ih =>
    intro l j v h
    cases l with
    | nil =>
      cases j with
      | zero => cases h
      | succ j =>
        obtain ⟨h1, h2⟩ := ih [] j v h
        cases h1
    | cons x t =>
      cases j with
      | zero => exact ⟨h, Nat.succ_pos _⟩
      | succ j =>
        obtain ⟨h1, h2⟩ := ih t j v h
        exact ⟨h1, Nat.succ_lt_succ h2⟩
/-- the callee's first frame -/
theorem LV_entry {m : MethodId} {as : List Value} {n : Nat} (h : (argl as).length ≤ n) : ∃ ls, entryFrame m (as.map (cz G)).toArray n = F0 m 0 ls [] ∧ LV G ls n (padl n (argl as)) := by
  refine ⟨_, lg_entry_eq m _ n, ?_⟩
  have hz := sl_len (G := G) as
  have h0 := lv_entry (as.map (cz G)) (n := n) (by rw [hz]; exact h)
  refine ⟨h0.1, h0.2.1, fun q hq => ?_⟩
  obtain ⟨j, v, rfl, hj⟩ := asl_to hq
  obtain ⟨h1, -⟩ := padl_get _ _ _ _ hj
  have h2 := sl_at (G := G) as j v h1
  have h3 := (List.getElem?_eq_some_iff.mp h2).1
  show ((lg_sl (as.map (cz G)) ++ List.replicate (n - (lg_sl (as.map (cz G))).length) Slot.unset).toArray)[0 + j]? = _
  rw [Nat.zero_add, List.getElem?_toArray, List.getElem?_append_left h3]
  exact h2
end SH
