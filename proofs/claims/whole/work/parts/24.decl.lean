/-! THE PURE PROOFS: what is declared, who is small, where in -/
theorem lgGe {x y : Int64} : obl (nI 0 ≤ lg_cmp x y) = obl (y ≤ x) := by
  have : (nI 0 ≤ lg_cmp x y) ↔ y ≤ x := lg_cmp_ge x y
  rw [propext this]
theorem lgLe {x y : Int64} : obl (lg_cmp x y ≤ nI 0) = obl (x ≤ y) := by
  have : (lg_cmp x y ≤ nI 0) ↔ x ≤ y := lg_cmp_le x y
  rw [propext this]
theorem lgGt {x y : Int64} : obl (nI 0 < lg_cmp x y) = obl (y < x) := by
  have : (nI 0 < lg_cmp x y) ↔ y < x := lg_cmp_gt x y
  rw [propext this]
theorem lgEq {x y : Int64} : obl (lg_cmp x y = nI 0) = obl (x = y) := by
  have : (lg_cmp x y = nI 0) ↔ x = y := by
    constructor
    · intro h
      have h1 := (lg_cmp_ge x y).mp (by rw [h]; decide +kernel)
      have h2 := (lg_cmp_le x y).mp (by rw [h]; decide +kernel)
      exact Int64.le_antisymm h2 h1
    · rintro rfl
      have h1 : 0 ≤ lg_cmp x x := (lg_cmp_ge x x).mpr (Int64.le_refl x)
      have h2 : lg_cmp x x ≤ 0 := (lg_cmp_le x x).mpr (Int64.le_refl x)
      exact Int32.le_antisymm h2 h1
  rw [propext this]
theorem Llb {a b : Nat} (ha : a < 2 ^ 31) (hb : b < 2 ^ 31) : obl (lN a ≤ lN b) = Nat.ble a b := by
  by_cases h : a ≤ b
  · rw [obl_t ((lN_le ha hb).mpr h), Nlt h]
  · rw [obl_f (fun q => h ((lN_le ha hb).mp q)), Nlf (by omega)]
theorem Leb {a b : Nat} (ha : a < 2 ^ 31) (hb : b < 2 ^ 31) : obl (lN a = lN b) = Nat.beq a b := by
  by_cases h : a = b
  · rw [obl_t (by rw [h]), Nbt h]
  · rw [obl_f (fun q => h ((lN_eq ha hb).mp q)), Nbf h]
/-- the sum of the first n -/
def sumN (f : Nat → Nat) : Nat → Nat
  | 0 => 0
  | n + 1 => sumN f n + f n
theorem sumN_le {f : Nat → Nat} {b : Nat} : ∀ n, (∀ i, i < n → f i ≤ b) → sumN f n ≤ n * b := by
  intro n
  induction n with
  | zero => intro _; exact Nat.zero_le _
  | succ n ih =>
    intro h
    have h1 := ih (fun i hi => h i (by omega))
    have h2 := h n (Nat.lt_succ_self n)
    show sumN f n + f n ≤ (n + 1) * b
    rw [Nat.succ_mul]; omega
theorem sumN_c {f g : Nat → Nat} : ∀ n, (∀ i, i < n → f i = g i) → sumN f n = sumN g n := by
  intro n
  induction n with
  | zero => intro _; rfl
  | succ n ih =>
    intro h
    show sumN f n + f n = sumN g n + g n
    rw [ih (fun i hi => h i (by omega)), h n (Nat.lt_succ_self n)]
/-- a loop that changes the state -/
theorem lpS {P : Nat → PS → Prop} {R : Nat → PS → Option PO} {n : Nat} (h : ∀ j τ, j < n → P j τ → ∃ τ', P (j + 1) τ' ∧ R j τ = R (j + 1) τ') : ∀ j τ, j ≤ n → P j τ → ∃ τ', P n τ' ∧ R j τ = R n τ' := by
  intro j τ hj hp
  obtain ⟨k, rfl⟩ : ∃ k, n = j + k := ⟨n - j, by omega⟩
  clear hj
  induction k with
  | zero => exact ⟨τ, hp, rfl⟩
  | succ k ih =>
    obtain ⟨τ1, p1, e1⟩ := ih (fun i τ hi => h i τ (by omega))
    obtain ⟨τ2, p2, e2⟩ := h (j + k) τ1 (by omega) p1
    exact ⟨τ2, p2, e1.trans e2⟩
section DC
variable {d y : Nat} {LS : List LAW} {X : Option (List CLS)} {σ : PS}
/-- what was told last -/
noncomputable def dclV (σ : PS) (m s y : Nat) (k : Int32) : Nat → Int32
  | 0 => nI 0
  | j + 1 => bif obl (AI σ 105 j = nI m) then (bif obl (AI σ 106 j = nI s) then (bif obl (AI σ 107 j = nI y) then (bif obl (k < AI σ 108 j) then dclV σ m s y k j else AI σ 109 j) else dclV σ m s y k j) else dclV σ m s y k j) else dclV σ m s y k j
/-- as a number -/
noncomputable def dcN (σ : PS) (y : Nat) (k : Int32) (n m s : Nat) : Nat := (dclV σ m s y k n).toNatClampNeg
theorem dcl_b {n m s : Nat} {k : Int32} (h : ID σ) (hn : FI σ 85 39 = nI n) (hn2 : n ≤ 200) : ∀ j, j ≤ n → ∃ v, v ≤ 10000000 ∧ dclV σ m s y k j = nI v := by
  obtain ⟨n', h1, h2, h3, h4⟩ := h
  have : n = n' := (nI_eq (by omega) (by omega)).mp (hn.symm.trans h2)
  subst this
  intro j
  induction j with
  | zero => intro _; exact ⟨0, by decide, rfl⟩
  | succ j ih =>
    intro hj
    obtain ⟨v, hv, ev⟩ := ih (by omega)
    obtain ⟨-, -, -, -, w, -, -, -, -, hw, -, -, -, -, ew, -⟩ := h4 j (by omega)
    unfold dclV
    rw [ev, ew]
    cases obl (AI σ 105 j = nI m)
    · exact ⟨v, hv, rfl⟩
    · cases obl (AI σ 106 j = nI s)
      · exact ⟨v, hv, rfl⟩
      · cases obl (AI σ 107 j = nI y)
        · exact ⟨v, hv, rfl⟩
        · cases obl (k < AI σ 108 j)
          · exact ⟨w, hw, rfl⟩
          · exact ⟨v, hv, rfl⟩
theorem dcN_e {n m s : Nat} {k : Int32} (h : ID σ) (hn : FI σ 85 39 = nI n) (hn2 : n ≤ 200) : dclV σ m s y k n = nI (dcN σ y k n m s) ∧ dcN σ y k n m s ≤ 10000000 := by
  obtain ⟨v, hv, ev⟩ := dcl_b (m := m) (s := s) (k := k) (y := y) h hn hn2 n (Nat.le_refl _)
  unfold dcN
  rw [ev, nI_clamp (by omega)]
  exact ⟨rfl, hv⟩
theorem ID_off {τ : PS} (h : Off σ τ) (hD : ID σ) : ID τ := by
  unfold ID at hD ⊢
  rw [offF h 85 39 rfl, offF h 26 0 rfl, offA h 27 rfl, offA h 28 rfl, offA h 29 rfl, offA h 30 rfl, offA h 105 rfl, offA h 106 rfl, offA h 107 rfl, offA h 108 rfl, offA h 109 rfl]; exact hD
theorem dcl_eq {τ : PS} {m s : Nat} {k : Int32} (h5 : AI τ 105 = AI σ 105) (h6 : AI τ 106 = AI σ 106) (h7 : AI τ 107 = AI σ 107) (h8 : AI τ 108 = AI σ 108) (h9 : AI τ 109 = AI σ 109) : ∀ n, dclV τ m s y k n = dclV σ m s y k n := by
  intro n
  induction n with
  | zero => rfl
  | succ n ih => unfold dclV; rw [ih, h5, h6, h7, h8, h9]
theorem dcN_off {τ : PS} {n m s : Nat} {k : Int32} (h : Off σ τ) : dcN τ y k n m s = dcN σ y k n m s := by
  unfold dcN
  rw [dcl_eq (offA h 105 rfl) (offA h 106 rfl) (offA h 107 rfl) (offA h 108 rfl) (offA h 109 rfl)]
/-- the model's, of a maker that isn't tried -/
theorem c219 {n m s : Nat} {k : Int32} (hd : 1 ≤ d) (hn : FI σ 85 39 = nI n) (hn2 : n ≤ 200) (ht : ¬ nI m = FI σ 85 45) : Run false d 219 0 [some (.ref 85), some (.int (nI m)), some (.int (nI s)), some (.int (nI y)), some (.int k), none, none] [] σ = some (.inl (some (.int (dclV σ m s y k n)), σ)) := by
  obtain ⟨d, rfl⟩ := dS hd
  rw [s219_0, obl_f ht, cond_false]
  refine (lpU (f := fun j => Run false (d + 1) 219 22 [some (.ref 85), some (.int (nI m)), some (.int (nI s)), some (.int (nI y)), some (.int k), some (.int (dclV σ m s y k j)), some (.int (nI j))] [] σ) (n := n) (fun j hj => ?_) 0 (Nat.zero_le _)).trans ?_
  · rw [s219_22]
    simp (disch := omega) only [hn, oleF, cond_false, inbT, cond_true, nI_clamp, nI_add, dclV]
    cases obl (AI σ 105 j = nI m)
    · rfl
    · cases obl (AI σ 106 j = nI s)
      · rfl
      · cases obl (AI σ 107 j = nI y)
        · rfl
        · cases obl (k < AI σ 108 j) <;> rfl
  · rw [s219_22, hn, oleT (Nat.le_refl _) (by omega)]
    rfl
/-- what the model's declaredOf answers -/
def DM (σ : PS) (y : Nat) (k : Int32) (M : Nat) (dec : Nat → Nat → Nat) : Prop := (∀ m s, dec m s ≤ 10000000) ∧ ∀ τ, Off σ τ → ∀ d, 6 ≤ d → ∀ m s, m < M → s ≤ 4 → Run false d 219 0 [some (.ref 85), some (.int (nI m)), some (.int (nI s)), some (.int (nI y)), some (.int k), none, none] [] τ = some (.inl (some (.int (nI (dec m s))), τ))
theorem DM_no {n : Nat} {k : Int32} (hD : ID σ) (hn : FI σ 85 39 = nI n) (hn2 : n ≤ 200) (ht : FI σ 85 45 = -1) : DM σ y k 10 (dcN σ y k n) := by
  refine ⟨fun m s => (dcN_e hD hn hn2).2, fun τ ho d hd m s hm hs => ?_⟩
  rw [c219 (by omega) (by rw [offF ho 85 39 rfl]; exact hn) hn2 (by rw [offF ho 85 45 rfl, ht]; exact nI_m1n (by omega)), (dcN_e (ID_off ho hD) (by rw [offF ho 85 39 rfl]; exact hn) hn2).1, dcN_off ho]
theorem DM_off {k : Int32} {M : Nat} {dec : Nat → Nat → Nat} {τ : PS} (h : DM σ y k M dec) (ho : Off σ τ) : DM τ y k M dec := ⟨h.1, fun υ hu => h.2 υ (off_t ho hu)⟩
/-- SMALL -/
def smP (LS : List LAW) (X : Option (List CLS)) (y : Nat) (dec : Nat → Nat → Nat) (m : Nat) : Prop := sumN (dec m) 5 < numV (clX LS X 5 0 y) 0
theorem c221 {m M : Nat} {k : Int32} {dec : Nat → Nat → Nat} (hd : 7 ≤ d) (hm : m < M) (hy : y ≤ 40) (hX : DM σ y k M dec) (h : LM LS X σ) : Run false d 221 0 [some (.ref 85), some (.int (nI m)), some (.int (nI y)), some (.int k), none, none, none] [] σ = some (.inl (some (.int (b1 (smP LS X y dec m))), σ)) := by
  obtain ⟨d, rfl⟩ := dS (show 1 ≤ d by omega)
  have hl := num_any (k := 5) (d := 0) (atM_ok (clX_M (k := 5) (s := 0) (y := y) h)) (by decide)
  have hs5 : sumN (dec m) 5 ≤ 5 * 10000000 := sumN_le 5 (fun i _ => hX.1 m i)
  rw [s221_0]
  refine (lpU (f := fun j => Run false (d + 1) 221 6 [some (.ref 85), some (.int (nI m)), some (.int (nI y)), some (.int k), some (.long (lN (sumN (dec m) j))), none, some (.int (nI j))] [] σ) (n := 5) (fun j hj => ?_) 0 (Nat.zero_le _)).trans ?_
  · have := hX.1 m j
    rw [s221_6, oleF (show j < 5 by omega) (by decide), cond_false, hX.2 σ off_r d (by omega) m j hm (by omega), aft_v, s221_23, nI_l (by omega), lN_add, nI_add]
    rfl
  · rw [s221_6, oleT (Nat.le_refl _) (by decide), cond_true, c200_least (by omega) hy h, aft_v, s221_42, lgGe, nI_l (by omega), Llb (by omega) (by omega)]
    unfold smP
    by_cases q : sumN (dec m) 5 < numV (clX LS X 5 0 y) 0
    · rw [Nlf q, b1_t q, cond_false, is01_1]; rfl
    · rw [Nlt (by omega), b1_f q, cond_true, is01_0]; rfl
/-- where in -/
noncomputable def inR (σ : PS) (m y : Nat) : Nat → Int32 × Int32
  | 0 => (-1, -1)
  | j + 1 => bif obl (AI σ 114 j = nI m) then (bif obl (nI y < AI σ 116 j) then inR σ m y j else (bif obl (AI σ 116 j < (inR σ m y j).1) then inR σ m y j else (AI σ 116 j, AI σ 115 j))) else inR σ m y j
theorem c163 {n m : Nat} (hd : 1 ≤ d) (hI : IS σ) (hn : FI σ 31 1 = nI n) (hn2 : n ≤ 60) : Run false d 163 0 [some (.ref 31), some (.int (nI m)), some (.int (nI y)), none, none, none] [] σ = some (.inl (some (.int (inR σ m y n).2), σ)) := by
  obtain ⟨d, rfl⟩ := dS hd
  obtain ⟨-, ⟨n', h1, h2, h3, h4⟩, -⟩ := hI
  have : n = n' := (nI_eq (by omega) (by omega)).mp (hn.symm.trans h3)
  subst this
  rw [s163_0]
  refine (lpU (f := fun j => Run false (d + 1) 163 8 [some (.ref 31), some (.int (nI m)), some (.int (nI y)), some (.int (inR σ m y j).1), some (.int (inR σ m y j).2), some (.int (nI j))] [] σ) (n := n) (fun j hj => ?_) 0 (Nat.zero_le _)).trans ?_
  · obtain ⟨g1, -, g2, -, g3, -⟩ := h4 j hj
    rw [s163_8]
    simp (disch := omega) only [hn, oleF, cond_false, inbT, cond_true, nI_clamp, nI_add, g1, g2, g3, inR]
    cases obl (AI σ 114 j = nI m)
    · rfl
    · cases obl (nI y < AI σ 116 j)
      · cases obl (AI σ 116 j < (inR σ m y j).1) <;> rfl
      · rfl
  · rw [s163_8, hn, oleT (Nat.le_refl _) (by omega)]
    rfl
theorem inR_ok {n m : Nat} (hI : IS σ) (hn : FI σ 85 53 = nI n) (hn2 : n ≤ 60) : ∀ j, j ≤ n → IN 4 (inR σ m y j).2 ∧ ((inR σ m y j).1 = -1 ∨ IR 0 40 (inR σ m y j).1) := by
  obtain ⟨-, ⟨n', h1, h2, h3, h4⟩, -⟩ := hI
  have : n = n' := (nI_eq (by omega) (by omega)).mp (hn.symm.trans h2)
  subst this
  intro j
  induction j with
  | zero => intro _; exact ⟨Or.inl rfl, Or.inl rfl⟩
  | succ j ih =>
    intro hj
    obtain ⟨-, -, -, g1, -, g2⟩ := h4 j (by omega)
    have := ih (by omega)
    unfold inR
    cases obl (AI σ 114 j = nI m)
    · exact this
    · cases obl (nI y < AI σ 116 j)
      · cases obl (AI σ 116 j < (inR σ m y j).1)
        · exact ⟨g1, Or.inr g2⟩
        · exact this
      · exact this
theorem inR_off {τ : PS} {m : Nat} (h : Off σ τ) : ∀ n, inR τ m y n = inR σ m y n := by
  intro n
  induction n with
  | zero => rfl
  | succ n ih => unfold inR; rw [ih, offA h 114 rfl, offA h 115 rfl, offA h 116 rfl]
/-- the model keeps the place -/
noncomputable def inK (σ : PS) (m y : Nat) : Nat → Option Nat
  | 0 => none
  | j + 1 => bif obl (AI σ 114 j = nI m) then (bif obl (nI y < AI σ 116 j) then inK σ m y j else (bif obl (AI σ 116 j < (match inK σ m y j with | some i => AI σ 116 i | none => -1)) then inK σ m y j else some j)) else inK σ m y j
theorem inK_R {m : Nat} : ∀ j, inR σ m y j = (match inK σ m y j with | some i => (AI σ 116 i, AI σ 115 i) | none => (-1, -1)) ∧ ∀ i, inK σ m y j = some i → i < j := by
  intro j
  induction j with
  | zero => exact ⟨rfl, fun i h => by cases h⟩
  | succ j ih =>
    obtain ⟨ih1, ih2⟩ := ih
    have e : (inR σ m y j).1 = (match inK σ m y j with | some i => AI σ 116 i | none => -1) := by
      rw [ih1]
      cases inK σ m y j <;> rfl
    unfold inR inK
    rw [e]
    cases obl (AI σ 114 j = nI m)
    · exact ⟨ih1, fun i h => Nat.lt_succ_of_lt (ih2 i h)⟩
    · cases obl (nI y < AI σ 116 j)
      · cases obl (AI σ 116 j < (match inK σ m y j with | some i => AI σ 116 i | none => -1))
        · exact ⟨rfl, fun i h => by cases h; exact Nat.lt_succ_self _⟩
        · exact ⟨ih1, fun i h => Nat.lt_succ_of_lt (ih2 i h)⟩
      · exact ⟨ih1, fun i h => Nat.lt_succ_of_lt (ih2 i h)⟩
theorem c234 {n m : Nat} (hd : 1 ≤ d) (hI : IS σ) (hn : FI σ 85 53 = nI n) (hn2 : n ≤ 60) : Run false d 234 0 [some (.ref 85), some (.int (nI m)), some (.int (nI y)), none, none] [] σ = some (.inl (some (.int (inR σ m y n).2), σ)) := by
  obtain ⟨d, rfl⟩ := dS hd
  obtain ⟨-, ⟨n', h1, h2, h3, h4⟩, -⟩ := hI
  have : n = n' := (nI_eq (by omega) (by omega)).mp (hn.symm.trans h2)
  subst this
  rw [s234_0]
  refine (lpU (f := fun j => Run false (d + 1) 234 5 [some (.ref 85), some (.int (nI m)), some (.int (nI y)), some (.int (ixV (inK σ m y j))), some (.int (nI j))] [] σ) (n := n) (fun j hj => ?_) 0 (Nat.zero_le _)).trans ?_
  · have hk := (inK_R (σ := σ) (m := m) (y := y) j).2
    obtain ⟨-, -, -, -, -, ⟨f, -, f2, f3⟩⟩ := h4 j hj
    rw [s234_5]
    simp (disch := omega) only [hn, oleF, cond_false, inbT, cond_true, nI_clamp, nI_add, inK]
    cases obl (AI σ 114 j = nI m)
    · rfl
    · cases obl (nI y < AI σ 116 j)
      · cases e : inK σ m y j with
        | none =>
          have e1 : obl (ixV none = -1) = true := obl_t rfl
          have e2 : obl (AI σ 116 j < (-1 : Int32)) = false := obl_f (by rw [f3, Int32.lt_iff_toInt_lt, nI_toInt (by omega), show (-1 : Int32).toInt = -1 by decide]; omega)
          rw [e1, e2]; rfl
        | some i =>
          have hi := hk i e
          have e1 : obl (ixV (some i) = -1) = false := obl_f (nI_m1n (by omega))
          rw [e1]
          simp (disch := omega) only [cond_false, cond_true, ixV, inbT, nI_clamp]
          cases obl (AI σ 116 j < AI σ 116 i) <;> rfl
      · rfl
  · have hk := (inK_R (σ := σ) (m := m) (y := y) n)
    rw [s234_5, hn, oleT (Nat.le_refl _) (by omega), cond_true, hk.1]
    cases e : inK σ m y n with
    | none => rw [obl_t (show ixV none = -1 from rfl)]; rfl
    | some i =>
      have hi := hk.2 i e
      rw [obl_f (show ¬ ixV (some i) = -1 from nI_m1n (by omega))]
      show (bif false then _ else (bif inb (nI i) 60 then some (Sum.inl (some (Value.int (AI σ 115 (nI i).toNatClampNeg)), σ)) else none)) = _
      rw [inbT (by omega) (by decide), nI_clamp (by omega)]
      rfl
end DC
