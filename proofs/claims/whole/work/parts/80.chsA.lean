/-! THE PURE PROOFS: the cheapest makes: what is looked for -/
abbrev Rw : Type := Nat → Nat
abbrev SSt : Type := Option (Nat × Rw)
def updR (r : Rw) (i k : Nat) : Rw := fun j => if j = i then k else r j
def itN (g : Nat → SSt → SSt) : Nat → SSt → SSt
  | 0, S => S
  | j + 1, S => g j (itN g j S)
def leafU (t : Nat) (row : Rw) (S : SSt) : SSt := match S with
  | none => some (t, row)
  | some (t', r) => if t < t' then some (t, row) else some (t', r)
def srch (mk : Nat → Nat) (ban : Nat → Nat → Bool) (tot : Rw → Nat) : Nat → Nat → Rw → SSt → SSt
  | 0, _, row, S => leafU (tot row) row S
  | f + 1, i, row, S => itN (fun k S => bif ban i k then S else srch mk ban tot f (i + 1) (updR row i k) S) (mk i) S
def coN (coin : Nat → Nat → Nat) (row : Rw) : Nat → Nat
  | 0 => 0
  | i + 1 => coN coin row i + coin i (row i)
theorem updR_q {r : Rw} {i k : Nat} : updR r i k i = k := if_pos rfl
theorem updR_n {r : Rw} {i k j : Nat} (h : j ≠ i) : updR r i k j = r j := if_neg h
theorem coN_c {coin : Nat → Nat → Nat} {r r' : Rw} : ∀ i, (∀ j, j < i → r' j = r j) → coN coin r' i = coN coin r i := by
  intro i
  induction i with
  | zero => intro _; rfl
  | succ i ih =>
    intro h
    show coN coin r' i + coin i (r' i) = coN coin r i + coin i (r i)
    rw [ih (fun j hj => h j (by omega)), h i (by omega)]
/-- a row that costs as much already can't be less -/
theorem srch_pr {mk : Nat → Nat} {ban : Nat → Nat → Bool} {tot : Rw → Nat} {coin : Nat → Nat → Nat} {C : Nat} (ht : ∀ row, coN coin row C ≤ tot row) : ∀ f i row t r, i + f = C → t ≤ coN coin row i → srch mk ban tot f i row (some (t, r)) = some (t, r) := by
  intro f
  induction f with
  | zero =>
    intro i row t r hi h
    have : i = C := by omega
    subst this
    show (if tot row < t then some (tot row, row) else some (t, r)) = some (t, r)
    have := ht row
    rw [if_neg (by omega)]
  | succ f ih =>
    intro i row t r hi h
    have : ∀ j, itN (fun k S => bif ban i k then S else srch mk ban tot f (i + 1) (updR row i k) S) j (some (t, r)) = some (t, r) := by
      intro j
      induction j with
      | zero => rfl
      | succ j jh =>
        show (bif ban i j then _ else _) = _
        rw [jh]
        cases ban i j
        · rw [cond_false]
          refine ih (i + 1) _ t r (by omega) ?_
          show t ≤ coN coin (updR row i j) i + coin i (updR row i j i)
          rw [coN_c (r := row) i (fun k hk => updR_n (by omega))]
          omega
        · rfl
    exact this (mk i)
/-! the packets that are chosen for, and the rest -/
def chL (ow : Nat → Bool) : Nat → List Nat
  | 0 => []
  | j + 1 => if ow j = true ∧ (chL ow j).length < 5 then chL ow j ++ [j] else chL ow j
section AG
variable {α : Type} (op : α → α → α) (e : α) (ow : Nat → Bool)
/-- over all that are someone's; over the rest; the chosen ones on top -/
def acG (f : Nat → α) : Nat → α
  | 0 => e
  | j + 1 => bif ow j then op (acG f j) (f j) else acG f j
def rsG (f : Nat → α) : Nat → α
  | 0 => e
  | j + 1 => if ow j = true ∧ ¬ (chL ow j).length < 5 then op (rsG f j) (f j) else rsG f j
def bsG (b : α) (g : Nat → α) : Nat → α
  | 0 => b
  | i + 1 => op (bsG b g i) (g i)
variable {op e ow}
theorem bsG_c {b : α} {g g' : Nat → α} : ∀ i, (∀ j, j < i → g' j = g j) → bsG op b g' i = bsG op b g i := by
  intro i
  induction i with
  | zero => intro _; rfl
  | succ i ih =>
    intro h
    show op (bsG op b g' i) (g' i) = op (bsG op b g i) (g i)
    rw [ih (fun j hj => h j (by omega)), h i (by omega)]
theorem bsG_b (hc : ∀ a b c, op (op a b) c = op (op a c) b) {b x : α} {g : Nat → α} : ∀ i, bsG op (op b x) g i = op (bsG op b g i) x := by
  intro i
  induction i with
  | zero => rfl
  | succ i ih =>
    show op (bsG op (op b x) g i) (g i) = op (op (bsG op b g i) (g i)) x
    rw [ih, hc]
theorem rsG_c {f f' : Nat → α} : ∀ n, (∀ p, p < n → ow p = true → ¬ (chL ow p).length < 5 → f' p = f p) → rsG op e ow f' n = rsG op e ow f n := by
  intro n
  induction n with
  | zero => intro _; rfl
  | succ n ih =>
    intro h
    unfold rsG
    rw [ih (fun p hp => h p (by omega))]
    by_cases w : ow n = true ∧ ¬ (chL ow n).length < 5
    · rw [if_pos w, if_pos w, h n (by omega) w.1 w.2]
    · rw [if_neg w, if_neg w]
theorem ag_all (hc : ∀ a b c, op (op a b) c = op (op a c) b) {f : Nat → α} : ∀ n, acG op e ow f n = bsG op (rsG op e ow f n) (fun i => f ((chL ow n).getD i 0)) (chL ow n).length := by
  intro n
  induction n with
  | zero => rfl
  | succ n ih =>
    unfold acG rsG
    rw [ih]
    cases w : ow n
    · rw [cond_false, if_neg (by simp)]
      have e1 : chL ow (n + 1) = chL ow n := by
        show (if ow n = true ∧ _ then _ else _) = _
        rw [if_neg (by rw [w]; simp)]
      rw [e1]
    · rw [cond_true]
      by_cases v : (chL ow n).length < 5
      · have e1 : chL ow (n + 1) = chL ow n ++ [n] := by
          show (if ow n = true ∧ _ then _ else _) = _
          rw [if_pos ⟨w, v⟩]
        rw [if_neg (fun x => x.2 v), e1, List.length_append, show (chL ow n).length + [n].length = (chL ow n).length + 1 from rfl]
        have k1 : bsG op (rsG op e ow f n) (fun i => f ((chL ow n ++ [n]).getD i 0)) (chL ow n).length = bsG op (rsG op e ow f n) (fun i => f ((chL ow n).getD i 0)) (chL ow n).length := bsG_c _ (fun j hj => by
          show f ((chL ow n ++ [n]).getD j 0) = f ((chL ow n).getD j 0)
          rw [List.getD_eq_getElem?_getD, List.getElem?_append_left hj, List.getD_eq_getElem?_getD])
        have k2 : (chL ow n ++ [n]).getD (chL ow n).length 0 = n := by rw [List.getD_eq_getElem?_getD, List.getElem?_append_right (Nat.le_refl _), Nat.sub_self]; rfl
        show _ = op (bsG op (rsG op e ow f n) (fun i => f ((chL ow n ++ [n]).getD i 0)) (chL ow n).length) (f ((chL ow n ++ [n]).getD (chL ow n).length 0))
        rw [k1, k2]
      · have e1 : chL ow (n + 1) = chL ow n := by
          show (if ow n = true ∧ _ then _ else _) = _
          rw [if_neg (fun x => v x.2)]
        rw [if_pos ⟨rfl, v⟩, e1, bsG_b hc]
end AG
theorem chL_5 {ow : Nat → Bool} : ∀ n, (chL ow n).length ≤ 5 := by
  intro n
  induction n with
  | zero => exact Nat.zero_le _
  | succ n ih =>
    unfold chL
    by_cases w : ow n = true ∧ (chL ow n).length < 5
    · rw [if_pos w, List.length_append]
      have := w.2
      show (chL ow n).length + 1 ≤ 5
      omega
    · rw [if_neg w]; exact ih
/-- the i-th of them -/
theorem chL_at {ow : Nat → Bool} : ∀ n i, i < (chL ow n).length → (chL ow n).getD i 0 < n ∧ ow ((chL ow n).getD i 0) = true ∧ (chL ow ((chL ow n).getD i 0)).length = i := by
  intro n
  induction n with
  | zero => intro i h; exact absurd h (Nat.not_lt_zero i)
  | succ n ih =>
    intro i h
    by_cases w : ow n = true ∧ (chL ow n).length < 5
    · have e1 : chL ow (n + 1) = chL ow n ++ [n] := if_pos w
      rw [e1] at h ⊢
      rw [List.length_append] at h
      have h' : i < (chL ow n).length + 1 := h
      by_cases v : i < (chL ow n).length
      · have e2 : (chL ow n ++ [n]).getD i 0 = (chL ow n).getD i 0 := by rw [List.getD_eq_getElem?_getD, List.getElem?_append_left v, List.getD_eq_getElem?_getD]
        rw [e2]
        obtain ⟨a, b, c⟩ := ih i v
        exact ⟨by omega, b, c⟩
      · have : i = (chL ow n).length := by omega
        subst this
        have e2 : (chL ow n ++ [n]).getD (chL ow n).length 0 = n := by rw [List.getD_eq_getElem?_getD, List.getElem?_append_right (Nat.le_refl _), Nat.sub_self]; rfl
        rw [e2]
        exact ⟨by omega, w.1, rfl⟩
    · have e1 : chL ow (n + 1) = chL ow n := if_neg w
      rw [e1] at h ⊢
      obtain ⟨a, b, c⟩ := ih i h
      exact ⟨by omega, b, c⟩
theorem chL_in {ow : Nat → Bool} {n i j : Nat} (hi : i < (chL ow n).length) (hj : j < (chL ow n).length) (h : (chL ow n).getD i 0 = (chL ow n).getD j 0) : i = j := by
  have a := (chL_at n i hi).2.2
  have b := (chL_at n j hj).2.2
  rw [h] at a
  omega
theorem i32_rc (a b c : Int32) : a + b + c = a + c + b := by rw [Int32.add_assoc, Int32.add_comm b c, ← Int32.add_assoc]
theorem max_rc (a b c : Nat) : max (max a b) c = max (max a c) b := by omega
