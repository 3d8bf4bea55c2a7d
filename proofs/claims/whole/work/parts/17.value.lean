/-! THE PURE PROOFS: the value of a clause -/
noncomputable def two (o : Nat) (a b : Int32) : Int32 := match o with
  | 6 => a + b
  | 7 => a - b
  | 8 => a * b
  | 9 => bif obl (b = nI 0) then nI 0 else a / b
  | 10 => bif obl (b ≤ a) then b else a
  | 11 => bif obl (a ≤ b) then b else a
  | 12 => bif obl (b ≤ a) then nI 0 else nI 1
  | 13 => bif obl (a ≤ b) then nI 0 else nI 1
  | 14 => bif obl (a = b) then nI 1 else nI 0
  | 15 => a ||| b
  | _ => a &&& b
theorem c103 {d : Nat} {c : CD} {a b : Int32} {σ : PS} (hd : 1 ≤ d) (h1 : 6 ≤ c.1) (h2 : c.1 ≤ 16) : Run false d 103 0 [some (.int (nI (encC c))), some (.int a), some (.int b)] [] σ = some (.inl (some (.int (two c.1 a b)), σ)) := by
  obtain ⟨d, rfl⟩ := dS hd
  obtain ⟨o, n⟩ := c
  dsimp only at h1 h2
  have ho : o = 6 ∨ o = 7 ∨ o = 8 ∨ o = 9 ∨ o = 10 ∨ o = 11 ∨ o = 12 ∨ o = 13 ∨ o = 14 ∨ o = 15 ∨ o = 16 := by omega
  rw [s103_0]
  rcases ho with rfl | rfl | rfl | rfl | rfl | rfl | rfl | rfl | rfl | rfl | rfl
  · rw [show tswF 1 138 10010 10019 #[55, 59, 63, 67, 79, 90, 101, 112, 123, 134] (nI (encC (6, n))) = 56 from by show tswF _ _ _ _ _ (nI 10010) = _; decide +kernel, s103_56]; rfl
  · rw [show tswF 1 138 10010 10019 #[55, 59, 63, 67, 79, 90, 101, 112, 123, 134] (nI (encC (7, n))) = 60 from by show tswF _ _ _ _ _ (nI 10011) = _; decide +kernel, s103_60]; rfl
  · rw [show tswF 1 138 10010 10019 #[55, 59, 63, 67, 79, 90, 101, 112, 123, 134] (nI (encC (8, n))) = 64 from by show tswF _ _ _ _ _ (nI 10012) = _; decide +kernel, s103_64]; rfl
  · rw [show tswF 1 138 10010 10019 #[55, 59, 63, 67, 79, 90, 101, 112, 123, 134] (nI (encC (9, n))) = 68 from by show tswF _ _ _ _ _ (nI 10013) = _; decide +kernel, s103_68]
    show _ = some (Sum.inl (some (Value.int (bif obl (b = nI 0) then nI 0 else a / b)), σ))
    cases obl (b = nI 0) <;> rfl
  · rw [show tswF 1 138 10010 10019 #[55, 59, 63, 67, 79, 90, 101, 112, 123, 134] (nI (encC (10, n))) = 80 from by show tswF _ _ _ _ _ (nI 10014) = _; decide +kernel, s103_80]
    show _ = some (Sum.inl (some (Value.int (bif obl (b ≤ a) then b else a)), σ))
    cases obl (b ≤ a) <;> rfl
  · rw [show tswF 1 138 10010 10019 #[55, 59, 63, 67, 79, 90, 101, 112, 123, 134] (nI (encC (11, n))) = 91 from by show tswF _ _ _ _ _ (nI 10015) = _; decide +kernel, s103_91]
    show _ = some (Sum.inl (some (Value.int (bif obl (a ≤ b) then b else a)), σ))
    cases obl (a ≤ b) <;> rfl
  · rw [show tswF 1 138 10010 10019 #[55, 59, 63, 67, 79, 90, 101, 112, 123, 134] (nI (encC (12, n))) = 102 from by show tswF _ _ _ _ _ (nI 10016) = _; decide +kernel, s103_102]
    show _ = some (Sum.inl (some (Value.int (bif obl (b ≤ a) then nI 0 else nI 1)), σ))
    cases obl (b ≤ a) <;> rfl
  · rw [show tswF 1 138 10010 10019 #[55, 59, 63, 67, 79, 90, 101, 112, 123, 134] (nI (encC (13, n))) = 113 from by show tswF _ _ _ _ _ (nI 10017) = _; decide +kernel, s103_113]
    show _ = some (Sum.inl (some (Value.int (bif obl (a ≤ b) then nI 0 else nI 1)), σ))
    cases obl (a ≤ b) <;> rfl
  · rw [show tswF 1 138 10010 10019 #[55, 59, 63, 67, 79, 90, 101, 112, 123, 134] (nI (encC (14, n))) = 124 from by show tswF _ _ _ _ _ (nI 10018) = _; decide +kernel, s103_124]
    show _ = some (Sum.inl (some (Value.int (bif obl (a = b) then nI 1 else nI 0)), σ))
    cases obl (a = b) <;> rfl
  · rw [show tswF 1 138 10010 10019 #[55, 59, 63, 67, 79, 90, 101, 112, 123, 134] (nI (encC (15, n))) = 139 from by show tswF _ _ _ _ _ (nI 10020) = _; decide +kernel, s103_139]; rfl
  · rw [show tswF 1 138 10010 10019 #[55, 59, 63, 67, 79, 90, 101, 112, 123, 134] (nI (encC (16, n))) = 135 from by show tswF _ _ _ _ _ (nI 10019) = _; decide +kernel, s103_135]; rfl
theorem div_m1 (a : Int32) : a / (-1 : Int32) = -a := by
  apply Int32.toInt_inj.mp
  rw [Int32.toInt_div, show (-1 : Int32).toInt = -1 by decide, Int.tdiv_neg, Int.tdiv_one, Int32.toInt_neg]
/-- 0 or 1 -/
def B01 (a : Int32) : Prop := a = nI 0 ∨ a = nI 1
theorem c204 {d o : Nat} {a b : Int32} {σ : PS} (hd : 1 ≤ d) (h1 : 6 ≤ o) (h2 : o ≤ 16) (hb : 15 ≤ o → B01 a ∧ B01 b) : Run false d 204 0 [some (.int (nI o)), some (.int a), some (.int b)] [] σ = some (.inl (some (.int (two o a b)), σ)) := by
  obtain ⟨d, rfl⟩ := dS hd
  have ho : o = 6 ∨ o = 7 ∨ o = 8 ∨ o = 9 ∨ o = 10 ∨ o = 11 ∨ o = 12 ∨ o = 13 ∨ o = 14 ∨ o = 15 ∨ o = 16 := by omega
  rw [s204_0]
  rcases ho with rfl | rfl | rfl | rfl | rfl | rfl | rfl | rfl | rfl | rfl | rfl
  · rw [show tswF 1 156 6 15 #[55, 59, 63, 67, 89, 100, 111, 122, 133, 144] (nI 6) = 56 by decide +kernel, s204_56]; rfl
  · rw [show tswF 1 156 6 15 #[55, 59, 63, 67, 89, 100, 111, 122, 133, 144] (nI 7) = 60 by decide +kernel, s204_60]; rfl
  · rw [show tswF 1 156 6 15 #[55, 59, 63, 67, 89, 100, 111, 122, 133, 144] (nI 8) = 64 by decide +kernel, s204_64]; rfl
  · rw [show tswF 1 156 6 15 #[55, 59, 63, 67, 89, 100, 111, 122, 133, 144] (nI 9) = 68 by decide +kernel, s204_68]
    show _ = some (Sum.inl (some (Value.int (bif obl (b = nI 0) then nI 0 else a / b)), σ))
    by_cases q : b = -1
    · subst q
      rw [obl_t rfl, div_m1]
      cases obl ((-1 : Int32) = nI 0) <;> rfl
    · rw [obl_f q]
      cases obl (b = nI 0) <;> rfl
  · rw [show tswF 1 156 6 15 #[55, 59, 63, 67, 89, 100, 111, 122, 133, 144] (nI 10) = 90 by decide +kernel, s204_90]
    show _ = some (Sum.inl (some (Value.int (bif obl (b ≤ a) then b else a)), σ))
    cases obl (b ≤ a) <;> rfl
  · rw [show tswF 1 156 6 15 #[55, 59, 63, 67, 89, 100, 111, 122, 133, 144] (nI 11) = 101 by decide +kernel, s204_101]
    show _ = some (Sum.inl (some (Value.int (bif obl (a ≤ b) then b else a)), σ))
    cases obl (a ≤ b) <;> rfl
  · rw [show tswF 1 156 6 15 #[55, 59, 63, 67, 89, 100, 111, 122, 133, 144] (nI 12) = 112 by decide +kernel, s204_112]
    show _ = some (Sum.inl (some (Value.int (bif obl (b ≤ a) then nI 0 else nI 1)), σ))
    cases obl (b ≤ a) <;> rfl
  · rw [show tswF 1 156 6 15 #[55, 59, 63, 67, 89, 100, 111, 122, 133, 144] (nI 13) = 123 by decide +kernel, s204_123]
    show _ = some (Sum.inl (some (Value.int (bif obl (a ≤ b) then nI 0 else nI 1)), σ))
    cases obl (a ≤ b) <;> rfl
  · rw [show tswF 1 156 6 15 #[55, 59, 63, 67, 89, 100, 111, 122, 133, 144] (nI 14) = 134 by decide +kernel, s204_134]
    show _ = some (Sum.inl (some (Value.int (bif obl (a = b) then nI 1 else nI 0)), σ))
    cases obl (a = b) <;> rfl
  · rw [show tswF 1 156 6 15 #[55, 59, 63, 67, 89, 100, 111, 122, 133, 144] (nI 15) = 145 by decide +kernel, s204_145]
    obtain ⟨ha, hb2⟩ := hb (by decide)
    clear hb
    show _ = some (Sum.inl (some (Value.int (a ||| b)), σ))
    rcases ha with rfl | rfl <;> rcases hb2 with rfl | rfl
    · rw [obl_t (by decide +kernel), show nI 0 ||| nI 0 = nI 0 by decide +kernel]; rfl
    · rw [obl_f (by decide +kernel), show nI 0 ||| nI 1 = nI 1 by decide +kernel]; rfl
    · rw [obl_f (by decide +kernel), show nI 1 ||| nI 0 = nI 1 by decide +kernel]; rfl
    · rw [obl_f (by decide +kernel), show nI 1 ||| nI 1 = nI 1 by decide +kernel]; rfl
  · rw [show tswF 1 156 6 15 #[55, 59, 63, 67, 89, 100, 111, 122, 133, 144] (nI 16) = 157 by decide +kernel, s204_157]
    obtain ⟨ha, hb2⟩ := hb (by decide)
    clear hb
    show _ = some (Sum.inl (some (Value.int (a &&& b)), σ))
    rcases ha with rfl | rfl <;> rcases hb2 with rfl | rfl
    · rw [show nI 0 &&& nI 0 = nI 0 * nI 0 by decide +kernel]
    · rw [show nI 0 &&& nI 1 = nI 0 * nI 1 by decide +kernel]
    · rw [show nI 1 &&& nI 0 = nI 1 * nI 0 by decide +kernel]
    · rw [show nI 1 &&& nI 1 = nI 1 * nI 1 by decide +kernel]
/-- the facts: year, kilos, share, grams, layers -/
abbrev FCT : Type := Int32 × Int32 × Int32 × Int32 × Int32
def fct (F : FCT) (i : Nat) : Int32 := match i with
  | 1 => F.1
  | 2 => F.2.1
  | 3 => F.2.2.1
  | 4 => F.2.2.2.1
  | _ => F.2.2.2.2
noncomputable def evC (F : FCT) (st : List Int32) (c : CD) : List Int32 :=
  if c.1 = 0 then nI c.2 :: st else if c.1 ≤ 5 then fct F c.1 :: st else if c.1 = 17 then (match st with | a :: r => (nI 1 - a) :: r | [] => []) else (match st with | b :: a :: r => two c.1 a b :: r | r => r)
noncomputable def evL (F : FCT) : List Int32 → List CD → List Int32
  | st, [] => st
  | st, c :: cs => evL F (evC F st c) cs
/-- the value of steps -/
noncomputable def valC (F : FCT) (cs : List CD) : Int32 := (evL F [] cs).getD 0 (nI 0)
/-- the stack's values are of their kinds -/
def stT : List Int32 → List Bool → Prop
  | [], [] => True
  | v :: r, t :: u => (t = true → B01 v) ∧ stT r u
  | _, _ => False
theorem stT_len : ∀ {st : List Int32} {t : List Bool}, stT st t → st.length = t.length := by
  intro st
  induction st with
  | nil => intro t h; cases t with
    | nil => rfl
    | cons a u => exact h.elim
  | cons v r ih => intro t h; cases t with
    | nil => exact h.elim
    | cons a u => rw [List.length_cons, List.length_cons, ih h.2]
theorem two_b {o : Nat} {a b : Int32} (h1 : 12 ≤ o) (h2 : o ≤ 14) : B01 (two o a b) := by
  have : o = 12 ∨ o = 13 ∨ o = 14 := by omega
  rcases this with rfl | rfl | rfl
  · show B01 (bif obl (b ≤ a) then nI 0 else nI 1)
    cases obl (b ≤ a)
    · exact Or.inr rfl
    · exact Or.inl rfl
  · show B01 (bif obl (a ≤ b) then nI 0 else nI 1)
    cases obl (a ≤ b)
    · exact Or.inr rfl
    · exact Or.inl rfl
  · show B01 (bif obl (a = b) then nI 1 else nI 0)
    cases obl (a = b)
    · exact Or.inl rfl
    · exact Or.inr rfl
theorem two_bb {o : Nat} {a b : Int32} (h1 : 15 ≤ o) (h2 : o ≤ 16) (ha : B01 a) (hb : B01 b) : B01 (two o a b) := by
  have : o = 15 ∨ o = 16 := by omega
  unfold B01
  rcases this with rfl | rfl <;> rcases ha with rfl | rfl <;> rcases hb with rfl | rfl
  · exact Or.inl (show nI 0 ||| nI 0 = nI 0 by decide +kernel)
  · exact Or.inr (show nI 0 ||| nI 1 = nI 1 by decide +kernel)
  · exact Or.inr (show nI 1 ||| nI 0 = nI 1 by decide +kernel)
  · exact Or.inr (show nI 1 ||| nI 1 = nI 1 by decide +kernel)
  · exact Or.inl (show nI 0 &&& nI 0 = nI 0 by decide +kernel)
  · exact Or.inl (show nI 0 &&& nI 1 = nI 0 by decide +kernel)
  · exact Or.inl (show nI 1 &&& nI 0 = nI 0 by decide +kernel)
  · exact Or.inr (show nI 1 &&& nI 1 = nI 1 by decide +kernel)
/-- a step, by its kind: pushes, joins two, or turns the top -/
theorem tyC_cases {t t' : List Bool} {c : CD} {st : List Int32} (h : tyC t c = some t') (hs : stT st t) : (c.1 ≤ 5 ∧ c.2 ≤ 9999 ∧ st.length ≤ 59 ∧ ∀ v, stT (v :: st) t') ∨
    (6 ≤ c.1 ∧ c.1 ≤ 16 ∧ ∃ a b r, st = b :: a :: r ∧ (15 ≤ c.1 → B01 a ∧ B01 b) ∧ stT (two c.1 a b :: r) t') ∨ (c.1 = 17 ∧ ∃ a r, st = a :: r ∧ stT ((nI 1 - a) :: r) t') := by
  have hl := stT_len hs
  unfold tyC at h
  by_cases h5 : c.1 ≤ 5
  · rw [if_pos h5] at h
    by_cases q : t.length ≤ 59 ∧ c.2 ≤ 9999
    · rw [if_pos q] at h
      cases h
      exact Or.inl ⟨h5, q.2, by omega, fun v => ⟨fun z => (by cases z), hs⟩⟩
    · rw [if_neg q] at h; cases h
  · rw [if_neg h5] at h
    by_cases h11 : c.1 ≤ 11
    · rw [if_pos h11] at h
      split at h
      · cases h
        match st, hs with
        | b :: a :: r, hs => exact Or.inr (Or.inl ⟨by omega, by omega, a, b, r, rfl, fun z => by omega, fun z => (by cases z), hs.2.2⟩)
      · cases h
    · rw [if_neg h11] at h
      by_cases h14 : c.1 ≤ 14
      · rw [if_pos h14] at h
        split at h
        · cases h
          match st, hs with
          | b :: a :: r, hs => exact Or.inr (Or.inl ⟨by omega, by omega, a, b, r, rfl, fun z => by omega, fun _ => two_b (by omega) h14, hs.2.2⟩)
        · cases h
      · rw [if_neg h14] at h
        by_cases h16 : c.1 ≤ 16
        · rw [if_pos h16] at h
          split at h
          · cases h
            match st, hs with
            | b :: a :: r, hs => exact Or.inr (Or.inl ⟨by omega, by omega, a, b, r, rfl, fun z => ⟨hs.2.1 rfl, hs.1 rfl⟩, fun _ => two_bb (by omega) h16 (hs.2.1 rfl) (hs.1 rfl), hs.2.2⟩)
          · cases h
        · rw [if_neg h16] at h
          by_cases h17 : c.1 = 17
          · rw [if_pos h17] at h
            split at h
            · cases h
              match st, hs with
              | a :: r, hs =>
                refine Or.inr (Or.inr ⟨h17, a, r, rfl, fun _ => ?_, hs.2⟩)
                rcases hs.1 rfl with rfl | rfl
                · exact Or.inr (by decide +kernel)
                · exact Or.inl (by decide +kernel)
            · cases h
          · rw [if_neg h17] at h; cases h
theorem enc_num {c : CD} (h : c.1 = 0) : encC c = c.2 := by
  obtain ⟨o, n⟩ := c
  dsimp only at h
  subst h
  rfl
theorem enc_fact {c : CD} (h1 : 1 ≤ c.1) (h2 : c.1 ≤ 5) : encC c = 9999 + c.1 := by
  obtain ⟨o, n⟩ := c
  dsimp only at h1 h2
  have : o = 1 ∨ o = 2 ∨ o = 3 ∨ o = 4 ∨ o = 5 := by omega
  rcases this with rfl | rfl | rfl | rfl | rfl <;> rfl
theorem enc_op {c : CD} (h1 : 6 ≤ c.1) (h2 : c.1 ≤ 16) : 10010 ≤ encC c ∧ encC c ≤ 10020 := by
  obtain ⟨o, n⟩ := c
  dsimp only at h1 h2
  have ho : o = 6 ∨ o = 7 ∨ o = 8 ∨ o = 9 ∨ o = 10 ∨ o = 11 ∨ o = 12 ∨ o = 13 ∨ o = 14 ∨ o = 15 ∨ o = 16 := by omega
  rcases ho with rfl | rfl | rfl | rfl | rfl | rfl | rfl | rfl | rfl | rfl | rfl <;> exact ⟨Nat.le_of_ble_eq_true rfl, Nat.le_of_ble_eq_true rfl⟩
theorem enc_not {c : CD} (h : c.1 = 17) : encC c = 10021 := by
  obtain ⟨o, n⟩ := c
  dsimp only at h
  subst h
  rfl
/-- the stack in an array -/
def AS (σ : PS) (o : Nat) : List Int32 → Prop
  | [] => True
  | v :: r => AI σ o r.length = v ∧ AS σ o r
theorem AS_w {σ : PS} {o j : Nat} {v : Int32} : ∀ {r : List Int32}, AS σ o r → r.length ≤ j → AS (wAI σ o j v) o r := by
  intro r
  induction r with
  | nil => intro _ _; trivial
  | cons a r ih =>
    intro h hl
    rw [List.length_cons] at hl
    exact ⟨by rw [AI_n (Or.inr (by omega))]; exact h.1, ih h.2 (by omega)⟩
theorem AS_p {σ : PS} {o : Nat} {v : Int32} {r : List Int32} (h : AS σ o r) : AS (wAI σ o r.length v) o (v :: r) := ⟨AI_q, AS_w h (Nat.le_refl _)⟩
