/-! THE PURE PROOFS, base: conditions, ints, places, loops -/
theorem obl_d {p : Prop} {h : Decidable p} : obl p = decide p := by
  by_cases q : p
  · rw [obl_t q, decide_eq_true q]
  · rw [obl_f q, decide_eq_false q]
theorem bif_d {α : Type} {p : Prop} {h : Decidable p} {a b : α} : (bif decide p then a else b) = if p then a else b := by
  by_cases q : p
  · rw [decide_eq_true q, if_pos q]; rfl
  · rw [decide_eq_false q, if_neg q]; rfl
theorem bif_o {α : Type} {p : Prop} {h : Decidable p} {a b : α} : (bif obl p then a else b) = if p then a else b := by rw [obl_d (h := h), bif_d]
theorem inb_nI {k n : Nat} (hk : k < 2 ^ 31) : inb (nI k) n = decide (k < n) := by
  unfold inb
  by_cases q : k < n
  · rw [decide_eq_true q]; exact obl_t (by unfold vp_in; rw [nI_clamp hk]; intro z; rcases z with z | z; exact nI_pos hk z; omega)
  · rw [decide_eq_false q]; exact obl_f (by unfold vp_in; rw [nI_clamp hk]; intro z; exact z (Or.inr (by omega)))
theorem inb_i {x : Int32} {n : Nat} : inb x n = decide (0 ≤ x.toInt ∧ x.toInt < n) := by
  unfold inb
  rw [obl_d (h := Classical.propDecidable _)]
  simp only [vp_in_iff]
theorem is01_0 : is01 (nI 0) = true := obl_t (Or.inl rfl)
theorem is01_1 : is01 (nI 1) = true := obl_t (Or.inr rfl)
theorem is01_of {x : Int32} (h : x = nI 0 ∨ x = nI 1) : is01 x = true := obl_t h
theorem nI_sub {a b : Nat} (h : b ≤ a) : nI a - nI b = nI (a - b) := by
  have : nI a = nI (a - b) + nI b := by rw [nI_add, Nat.sub_add_cancel h]
  rw [this, Int32.add_sub_cancel]
theorem nI_mul (a b : Nat) : nI a * nI b = nI (a * b) := (Int32.ofNat_mul a b).symm
theorem nI_m1 {a : Nat} (h : 1 ≤ a) : nI a + (-1 : Int32) = nI (a - 1) := by
  have e : (-1 : Int32) = - nI 1 := rfl
  rw [e, ← Int32.sub_eq_add_neg, nI_sub h]
/-- a loop that counts up -/
theorem lpU {α : Type} {f : Nat → α} {n : Nat} (h : ∀ j, j < n → f j = f (j + 1)) : ∀ j, j ≤ n → f j = f n := by
  intro j hj
  obtain ⟨k, rfl⟩ : ∃ k, n = j + k := ⟨n - j, by omega⟩
  clear hj
  induction k with
  | zero => rfl
  | succ k ih => rw [ih (fun i hi => h i (by omega)), h (j + k) (by omega)]; rfl
/-- a loop that may leave early with r -/
theorem lpE {α : Type} {f : Nat → α} {n : Nat} {r : α} (h : ∀ j, j < n → f j = r ∨ f j = f (j + 1)) (he : f n = r) : ∀ j, j ≤ n → f j = r := by
  intro j hj
  obtain ⟨k, rfl⟩ : ∃ k, n = j + k := ⟨n - j, by omega⟩
  clear hj
  induction k generalizing j with
  | zero => exact he
  | succ k ih =>
    rcases h j (by omega) with q | q
    · exact q
    · rw [q]; exact ih (j + 1) (fun i hi => h i (by omega)) (by rw [← he]; congr 1; omega)
theorem padl_3 {a : Option Value} {l : List (Option Value)} {n : Nat} : padl (n + 1) (a :: l) = a :: padl n l := rfl
/-! reads behind writes -/
theorem FI_i {σ : PS} {o k o' k' : Nat} {v : Int32} : FI (wFI σ o k v) o' k' = if o' = o ∧ k' = k then v else FI σ o' k' := by
  show u2 σ.1 o k v o' k' = _
  unfold u2
  by_cases h : o' = o ∧ k' = k
  · obtain ⟨rfl, rfl⟩ := h; simp
  · rw [if_neg h]
    have : (Nat.beq o' o && Nat.beq k' k) = false := by
      cases e : (Nat.beq o' o && Nat.beq k' k) with
      | false => rfl
      | true => rw [Bool.and_eq_true, Nat.beq_eq, Nat.beq_eq] at e; exact absurd e h
    rw [this]; rfl
theorem FL_l {σ : PS} {o k o' k' : Nat} {v : Int64} : FL (wFL σ o k v) o' k' = if o' = o ∧ k' = k then v else FL σ o' k' := by
  show u2 σ.2.1 o k v o' k' = _
  unfold u2
  by_cases h : o' = o ∧ k' = k
  · obtain ⟨rfl, rfl⟩ := h; simp
  · rw [if_neg h]
    have : (Nat.beq o' o && Nat.beq k' k) = false := by
      cases e : (Nat.beq o' o && Nat.beq k' k) with
      | false => rfl
      | true => rw [Bool.and_eq_true, Nat.beq_eq, Nat.beq_eq] at e; exact absurd e h
    rw [this]; rfl
theorem AI_i {σ : PS} {o k o' k' : Nat} {v : Int32} : AI (wAI σ o k v) o' k' = if o' = o ∧ k' = k then v else AI σ o' k' := by
  show ua σ.2.2.1 o k v o' k' = _
  unfold ua
  by_cases h : o' = o
  · subst h; by_cases q : k' = k <;> simp [q]
  · have : Nat.beq o' o = false := by
      cases e : Nat.beq o' o with
      | false => rfl
      | true => exact absurd (Nat.eq_of_beq_eq_true e) h
    simp [this, h]
theorem AL_l {σ : PS} {o k o' k' : Nat} {v : Int64} : AL (wAL σ o k v) o' k' = if o' = o ∧ k' = k then v else AL σ o' k' := by
  show ua σ.2.2.2.1 o k v o' k' = _
  unfold ua
  by_cases h : o' = o
  · subst h; by_cases q : k' = k <;> simp [q]
  · have : Nat.beq o' o = false := by
      cases e : Nat.beq o' o with
      | false => rfl
      | true => exact absurd (Nat.eq_of_beq_eq_true e) h
    simp [this, h]
theorem FI_l {σ : PS} {o k : Nat} {v : Int64} : FI (wFL σ o k v) = FI σ := rfl
theorem FI_ai {σ : PS} {o k : Nat} {v : Int32} : FI (wAI σ o k v) = FI σ := rfl
theorem FI_al {σ : PS} {o k : Nat} {v : Int64} : FI (wAL σ o k v) = FI σ := rfl
theorem FL_i {σ : PS} {o k : Nat} {v : Int32} : FL (wFI σ o k v) = FL σ := rfl
theorem FL_ai {σ : PS} {o k : Nat} {v : Int32} : FL (wAI σ o k v) = FL σ := rfl
theorem FL_al {σ : PS} {o k : Nat} {v : Int64} : FL (wAL σ o k v) = FL σ := rfl
theorem AI_f {σ : PS} {o k : Nat} {v : Int32} : AI (wFI σ o k v) = AI σ := rfl
theorem AI_l {σ : PS} {o k : Nat} {v : Int64} : AI (wFL σ o k v) = AI σ := rfl
theorem AI_al {σ : PS} {o k : Nat} {v : Int64} : AI (wAL σ o k v) = AI σ := rfl
theorem AL_f {σ : PS} {o k : Nat} {v : Int32} : AL (wFI σ o k v) = AL σ := rfl
theorem AL_fl {σ : PS} {o k : Nat} {v : Int64} : AL (wFL σ o k v) = AL σ := rfl
theorem AL_ai {σ : PS} {o k : Nat} {v : Int32} : AL (wAI σ o k v) = AL σ := rfl
theorem FI_t {σ : PS} : FI (thF σ) = FI σ := rfl
theorem FL_t {σ : PS} : FL (thF σ) = FL σ := rfl
theorem AI_t {σ : PS} : AI (thF σ) = AI σ := rfl
theorem AL_t {σ : PS} : AL (thF σ) = AL σ := rfl
theorem XX_i {σ : PS} {o k : Nat} {v : Int32} : XX (wFI σ o k v) = XX σ := rfl
theorem XX_l {σ : PS} {o k : Nat} {v : Int64} : XX (wFL σ o k v) = XX σ := rfl
theorem XX_ai {σ : PS} {o k : Nat} {v : Int32} : XX (wAI σ o k v) = XX σ := rfl
theorem XX_al {σ : PS} {o k : Nat} {v : Int64} : XX (wAL σ o k v) = XX σ := rfl
theorem aft_x {ini : Bool} {d k nx : Nat} {ls : List (Option Value)} {t : List Value} {E : Nat} {σ : PS} (h : hnd k E = 0) : aft ini d k nx ls t (some (.inr (E, σ))) = some (.inr (E, σ)) := by
  unfold aft bkF
  dsimp only
  rw [h]
