/-! THE PURE PROOFS: which clause counts -/
def lastIx (P : Nat → Bool) : Nat → Option Nat
  | 0 => none
  | n + 1 => bif P n then some n else lastIx P n
def mtc (k s : Nat) (c : CLS) : Bool := Nat.beq c.1 k && (Nat.ble 5 k || Nat.beq c.2.1 s)
def clD : CLS := (0, 0, 0, [])
def rowIx (cs : List CLS) (k s : Nat) (n : Nat) : Option Nat := lastIx (fun i => mtc k s (cs.getD i (0, 0, 0, []))) n
/-- in the first n laws, in force in y: the last clause of that kind and sort -/
def lawIx (LS : List LAW) (k s y : Nat) : Nat → Option Nat
  | 0 => none
  | r + 1 => bif Nat.ble (LS.getD r (0, [])).1 y then (match rowIx (LS.getD r (0, [])).2 k s (LS.getD r (0, [])).2.length with | some i => some (16 * r + i) | none => lawIx LS k s y r) else lawIx LS k s y r
def ixV : Option Nat → Int32
  | none => -1
  | some n => nI n
def dnI : Nat → Int32
  | 0 => -1
  | r + 1 => nI r
theorem dn_a (n : Nat) : nI n - nI 1 = dnI n := by
  cases n with
  | zero => decide +kernel
  | succ n => exact nI_s1
theorem dn_b (r : Nat) : nI r + (-1 : Int32) = dnI r := by
  cases r with
  | zero => decide +kernel
  | succ r => rw [nI_m1 (Nat.le_add_left 1 r)]; rfl
theorem m1_lt : obl ((-1 : Int32) < nI 0) = true := obl_t (by decide +kernel)
def LC (LS : List LAW) (σ : PS) : Prop := LS.length ≤ 11 ∧ FI σ 1 0 = nI LS.length ∧ (∀ r, r < LS.length → lawW (LS.getD r (0, []))) ∧ ∀ r, r < LS.length → AI σ 2 r = nI (LS.getD r (0, [])).1 ∧ rowC σ r (LS.getD r (0, [])).2
def LM (LS : List LAW) (X : Option (List CLS)) (σ : PS) : Prop := LS.length ≤ 10 ∧ FI σ 85 10 = nI LS.length ∧ (∀ r, r < LS.length → lawW (LS.getD r (0, []))) ∧ (∀ r, r < LS.length → AI σ 87 r = nI (LS.getD r (0, [])).1 ∧ rowM σ r (LS.getD r (0, [])).2) ∧ match X with
  | none => FI σ 85 22 = nI 0
  | some cs => FI σ 85 22 = nI 1 ∧ rowM σ 10 cs ∧ ∀ c ∈ cs, clW c
theorem getD_mem {α : Type} {l : List α} {i : Nat} {d : α} (h : i < l.length) : l.getD i d ∈ l := by
  rw [List.getD_eq_getElem?_getD, List.getElem?_eq_getElem h]
  exact List.getElem_mem h
theorem clW_at {x : LAW} {i : Nat} (h : lawW x) (hi : i < x.2.length) : clW (x.2.getD i (0, 0, 0, [])) := h.2 _ (getD_mem hi)
theorem Nbt {a b : Nat} (h : a = b) : Nat.beq a b = true := by rw [h]; exact Nat.beq_refl b
theorem Nbf {a b : Nat} (h : a ≠ b) : Nat.beq a b = false := by
  cases e : Nat.beq a b with
  | false => rfl
  | true => exact absurd (Nat.eq_of_beq_eq_true e) h
theorem Nlt {a b : Nat} (h : a ≤ b) : Nat.ble a b = true := Nat.ble_eq_true_of_le h
theorem Nlf {a b : Nat} (h : b < a) : Nat.ble a b = false := by
  cases e : Nat.ble a b with
  | false => rfl
  | true => have := Nat.le_of_ble_eq_true e; omega
theorem Olb {a b : Nat} (ha : a < 2 ^ 31) (hb : b < 2 ^ 31) : obl (nI a ≤ nI b) = Nat.ble a b := by
  by_cases h : a ≤ b
  · rw [oleT h hb, Nlt h]
  · rw [oleF (by omega) ha, Nlf (by omega)]
theorem Oeb {a b : Nat} (ha : a < 2 ^ 31) (hb : b < 2 ^ 31) : obl (nI a = nI b) = Nat.beq a b := by
  by_cases h : a = b
  · rw [oeqT h, Nbt h]
  · rw [oeqF h ha hb, Nbf h]
theorem Ob_lt {a b : Nat} (ha : a < 2 ^ 31) (hb : b < 2 ^ 31) : obl (nI a < nI b) = !Nat.ble b a := by
  by_cases h : a < b
  · rw [oltT h hb, Nlf h]; rfl
  · rw [oltF (by omega) ha, Nlt (by omega)]; rfl
/-- the kind and sort of a clause, as asked for -/
def srtV (k s : Nat) : Int32 := if k ≤ 4 then nI s else -1
theorem mtc_C {σ : PS} {r c k s : Nat} {x : CLS} (h : clC σ r c x) (hw : clW x) (hk : k ≤ 7) (hs : s ≤ 4) {α : Type} {A B : α} : (bif obl (AI σ 4 c = nI (210 + k)) then bif obl (AI σ 5 c = srtV k s) then A else B else B) = bif mtc k s x then A else B := by
  have h7 : x.1 ≤ 7 := hw.1
  have h4 : x.2.1 ≤ 4 := hw.2.1
  rw [h.1, h.2.1, Oeb (by omega) (by omega)]
  unfold mtc srtV
  by_cases e : x.1 = k
  · subst e
    rw [Nat.beq_refl, Nat.beq_refl]
    by_cases q : x.1 ≤ 4
    · rw [if_pos q, if_pos q, Oeb (by omega) (by omega), Nlf (show x.1 < 5 by omega)]
      cases Nat.beq x.2.1 s <;> rfl
    · rw [if_neg q, if_neg q, obl_t rfl, Nlt (show 5 ≤ x.1 by omega)]
      rfl
  · rw [Nbf e, Nbf (by omega)]
    rfl
theorem mtc_M {σ : PS} {r c k s : Nat} {x : CLS} (h : clM σ r c x) (hw : clW x) (hk : k ≤ 7) (hs : s ≤ 4) {α : Type} {A B : α} : (bif obl (AI σ 89 c = nI k) then bif obl (AI σ 90 c = nI (if k ≤ 4 then s else 0)) then A else B else B) = bif mtc k s x then A else B := by
  have h7 : x.1 ≤ 7 := hw.1
  have h4 : x.2.1 ≤ 4 := hw.2.1
  rw [h.1, h.2.1, Oeb (by omega) (by omega)]
  unfold mtc
  by_cases e : x.1 = k
  · subst e
    rw [Nat.beq_refl]
    by_cases q : x.1 ≤ 4
    · rw [if_pos q, if_pos q, Oeb (by omega) (by omega), Nlf (show x.1 < 5 by omega)]
      cases Nat.beq x.2.1 s <;> rfl
    · rw [if_neg q, if_neg q, obl_t rfl, Nlt (show 5 ≤ x.1 by omega)]
      rfl
  · rw [Nbf e]
    rfl
theorem c99_in {d k s y r : Nat} {LS : List LAW} {σ : PS} {cs : List CLS} (hk : k ≤ 7) (hs : s ≤ 4) (hr : r < 11) (hR : rowC σ r cs) (hW : ∀ i, i < cs.length → clW (cs.getD i (0, 0, 0, []))) (next : ∀ z5 z6, Run false (d + 1) 99 8 [some (.ref 1), some (.int (nI (210 + k))), some (.int (srtV k s)), some (.int (nI y)), some (.int (dnI r)), z5, z6] [] σ = some (.inl (some (.int (ixV (lawIx LS k s y r))), σ))) : ∀ i, i ≤ cs.length → ∀ z6, Run false (d + 1) 99 38 [some (.ref 1), some (.int (nI (210 + k))), some (.int (srtV k s)), some (.int (nI y)), some (.int (nI r)), some (.int (dnI i)), z6] [] σ = some (.inl (some (.int (ixV (match rowIx cs k s i with | some i => some (16 * r + i) | none => lawIx LS k s y r))), σ)) := by
  have h16 := hR.1
  intro i
  induction i with
  | zero =>
    intro _ z6
    rw [s99_38, show dnI 0 = -1 from rfl, m1_lt, cond_true, dn_b, next]
    rfl
  | succ i ih =>
    intro hi z6
    have e16 : r * 16 + i = 16 * r + i := by omega
    have hc := hR.2.2 i (by omega)
    have hw := hW i (by omega)
    rw [s99_38, show dnI (i + 1) = nI i from rfl]
    simp (disch := omega) only [oltF, cond_false, cond_true, nI_mul, nI_add, inbT, nI_clamp, e16, dn_b]
    rw [mtc_C hc hw hk hs, ih (by omega)]
    show (_ : Option PO) = some (.inl (some (.int (ixV (match (bif mtc k s (cs.getD i (0, 0, 0, [])) then some i else rowIx cs k s i) with | some i => some (16 * r + i) | none => lawIx LS k s y r))), σ))
    cases mtc k s (cs.getD i (0, 0, 0, [])) <;> rfl
/-- the class finds it -/
theorem c99 {d k s y : Nat} {LS : List LAW} {σ : PS} (hd : 1 ≤ d) (hk : k ≤ 7) (hs : s ≤ 4) (hy : y ≤ 40) (h : LC LS σ) : Run false d 99 0 [some (.ref 1), some (.int (nI (210 + k))), some (.int (srtV k s)), some (.int (nI y)), none, none, none] [] σ = some (.inl (some (.int (ixV (lawIx LS k s y LS.length))), σ)) := by
  obtain ⟨d, rfl⟩ := dS hd
  obtain ⟨hn, e1, hW, hL⟩ := h
  have key : ∀ r, r ≤ LS.length → ∀ z5 z6, Run false (d + 1) 99 8 [some (.ref 1), some (.int (nI (210 + k))), some (.int (srtV k s)), some (.int (nI y)), some (.int (dnI r)), z5, z6] [] σ = some (.inl (some (.int (ixV (lawIx LS k s y r))), σ)) := by
    intro r
    induction r with
    | zero =>
      intro _ z5 z6
      rw [s99_8, show dnI 0 = -1 from rfl, m1_lt]
      rfl
    | succ r ih =>
      intro hr z5 z6
      obtain ⟨g1, g2⟩ := hL r (by omega)
      have gw := hW r (by omega)
      have gy : (LS.getD r (0, [])).1 ≤ 40 := gw.1
      rw [s99_8, show dnI (r + 1) = nI r from rfl]
      simp (disch := omega) only [oltF, cond_false, cond_true, inbT, nI_clamp, dn_b, g1, g2.2.1, Olb, dn_a]
      rw [ih (by omega), c99_in hk hs (by omega) g2 (fun i hi => clW_at gw hi) (ih (by omega)) _ (Nat.le_refl _)]
      show (_ : Option PO) = some (.inl (some (.int (ixV (bif Nat.ble (LS.getD r (0, [])).1 y then _ else _))), σ))
      cases Nat.ble (LS.getD r (0, [])).1 y <;> rfl
  rw [s99_0, e1, dn_a, key _ (Nat.le_refl _)]
/-- what the model's loop over the laws has found behind l of them -/
def mIx (LS : List LAW) (X : Option (List CLS)) (k s y : Nat) : Nat → Option Nat
  | 0 => none
  | l + 1 => bif Nat.ble LS.length l then (bif Nat.beq l 10 then (match X with | some cs => (match rowIx cs k s cs.length with | some i => some (16 * l + i) | none => mIx LS X k s y l) | none => mIx LS X k s y l) else mIx LS X k s y l)
    else (bif Nat.ble (LS.getD l (0, [])).1 y then (match rowIx (LS.getD l (0, [])).2 k s (LS.getD l (0, [])).2.length with | some i => some (16 * l + i) | none => mIx LS X k s y l) else mIx LS X k s y l)
theorem mIx_lo {LS : List LAW} {X : Option (List CLS)} {k s y : Nat} : ∀ l, l ≤ LS.length → mIx LS X k s y l = lawIx LS k s y l := by
  intro l
  induction l with
  | zero => intro _; rfl
  | succ l ih =>
    intro hl
    unfold mIx lawIx
    rw [Nlf (show l < LS.length by omega), ih (by omega)]
    rfl
theorem mIx_hi {LS : List LAW} {X : Option (List CLS)} {k s y : Nat} : ∀ j, LS.length + j ≤ 10 → mIx LS X k s y (LS.length + j) = lawIx LS k s y LS.length := by
  intro j
  induction j with
  | zero => intro _; exact mIx_lo _ (Nat.le_refl _)
  | succ j ih =>
    intro hl
    show mIx LS X k s y (LS.length + j + 1) = _
    unfold mIx
    rw [Nlt (show LS.length ≤ LS.length + j by omega), Nbf (show LS.length + j ≠ 10 by omega), ih (by omega)]
    rfl
theorem mIx_end {LS : List LAW} {X : Option (List CLS)} {k s y : Nat} (h : LS.length ≤ 10) : mIx LS X k s y 11 = match X with | some cs => (match rowIx cs k s cs.length with | some i => some (160 + i) | none => lawIx LS k s y LS.length) | none => lawIx LS k s y LS.length := by
  have e : mIx LS X k s y 10 = lawIx LS k s y LS.length := by
    have := mIx_hi (LS := LS) (X := X) (k := k) (s := s) (y := y) (10 - LS.length) (by omega)
    rw [show LS.length + (10 - LS.length) = 10 by omega] at this
    exact this
  show (bif Nat.ble LS.length 10 then _ else _) = _
  rw [Nlt h, e]
  rfl
theorem c199_in {d k s y l : Nat} {σ : PS} {cs : List CLS} {p : Option Nat} (hk : k ≤ 7) (hs : s ≤ 4) (hl : l < 11) (hR : rowM σ l cs) (hW : ∀ i, i < cs.length → clW (cs.getD i (0, 0, 0, []))) : ∀ i, i ≤ cs.length → Run false (d + 1) 199 65 [some (.ref 85), some (.int (nI k)), some (.int (nI (if k ≤ 4 then s else 0))), some (.int (nI y)), some (.int (ixV (match rowIx cs k s i with | some i => some (16 * l + i) | none => p))), some (.int (nI l)), some (.int (nI 1)), some (.int (nI i))] [] σ =
    Run false (d + 1) 199 6 [some (.ref 85), some (.int (nI k)), some (.int (nI (if k ≤ 4 then s else 0))), some (.int (nI y)), some (.int (ixV (match rowIx cs k s cs.length with | some i => some (16 * l + i) | none => p))), some (.int (nI (l + 1))), some (.int (nI 1)), some (.int (nI cs.length))] [] σ := by
  have h16 := hR.1
  intro i hi
  refine (lpU (f := fun i => Run false (d + 1) 199 65 [some (.ref 85), some (.int (nI k)), some (.int (nI (if k ≤ 4 then s else 0))), some (.int (nI y)), some (.int (ixV (match rowIx cs k s i with | some i => some (16 * l + i) | none => p))), some (.int (nI l)), some (.int (nI 1)), some (.int (nI i))] [] σ) (n := cs.length) (fun j hj => ?_) i hi).trans ?_
  · have hc := hR.2.2 j hj
    have hw := hW j hj
    rw [s199_65]
    simp (disch := omega) only [inbT, cond_true, nI_clamp, hR.2.1, oleF, cond_false, z10, nI_mul, nI_add]
    rw [mtc_M hc hw hk hs]
    show _ = Run false (d + 1) 199 65 [some (.ref 85), some (.int (nI k)), some (.int (nI (if k ≤ 4 then s else 0))), some (.int (nI y)), some (.int (ixV (match (bif mtc k s (cs.getD j (0, 0, 0, [])) then some j else rowIx cs k s j) with | some i => some (16 * l + i) | none => p))), some (.int (nI l)), some (.int (nI 1)), some (.int (nI (j + 1)))] [] σ
    cases mtc k s (cs.getD j (0, 0, 0, [])) <;> rfl
  · rw [s199_65]
    simp (disch := omega) only [inbT, cond_true, nI_clamp, hR.2.1, oleT, nI_add]
theorem c199_no {d l : Nat} {σ : PS} {a1 a2 a3 a4 : Int32} (hl : l < 11) : Run false (d + 1) 199 65 [some (.ref 85), some (.int a1), some (.int a2), some (.int a3), some (.int a4), some (.int (nI l)), some (.int (nI 0)), some (.int (nI 0))] [] σ = Run false (d + 1) 199 6 [some (.ref 85), some (.int a1), some (.int a2), some (.int a3), some (.int a4), some (.int (nI (l + 1))), some (.int (nI 0)), some (.int (nI 0))] [] σ := by
  rw [s199_65]
  simp (disch := omega) only [inbT, cond_true, nI_clamp, z00, oTr, nI_add]
  cases obl (AI σ 88 l ≤ nI 0) <;> rfl
/-- the model finds it -/
theorem c199 {d k s y : Nat} {LS : List LAW} {X : Option (List CLS)} {σ : PS} (hd : 1 ≤ d) (hk : k ≤ 7) (hs : s ≤ 4) (hy : y ≤ 40) (h : LM LS X σ) : Run false d 199 0 [some (.ref 85), some (.int (nI k)), some (.int (nI (if k ≤ 4 then s else 0))), some (.int (nI y)), none, none, none, none] [] σ = some (.inl (some (.int (ixV (mIx LS X k s y 11))), σ)) := by
  obtain ⟨d, rfl⟩ := dS hd
  obtain ⟨hn, e1, hW, hL, hX⟩ := h
  have key : ∀ j l, l + j = 11 → ∀ z6 z7, Run false (d + 1) 199 6 [some (.ref 85), some (.int (nI k)), some (.int (nI (if k ≤ 4 then s else 0))), some (.int (nI y)), some (.int (ixV (mIx LS X k s y l))), some (.int (nI l)), z6, z7] [] σ = some (.inl (some (.int (ixV (mIx LS X k s y 11))), σ)) := by
    intro j
    induction j with
    | zero =>
      intro l hl z6 z7
      have : l = 11 := by omega
      subst this
      rw [s199_6, oltT (by decide) (by decide)]
      rfl
    | succ j ih =>
      intro l hl z6 z7
      rw [s199_6, oltF (by omega) (by omega), cond_false, e1, Olb (by omega) (by omega)]
      by_cases q : LS.length ≤ l
      · rw [Nlt q, cond_true]
        by_cases q2 : l = 10
        · subst q2
          rw [oeqT rfl, cond_true]
          cases X with
          | none =>
            rw [show FI σ 85 22 = nI 0 from hX, z00, cond_true, c199_no (by decide)]
            have e9 : mIx LS none k s y 10 = mIx LS none k s y 11 := by
              show _ = (bif Nat.ble LS.length 10 then _ else _)
              rw [Nlt hn]; rfl
            rw [e9]
            rw [← ih 11 (by omega) (some (.int (nI 0))) (some (.int (nI 0)))]
          | some cs =>
            obtain ⟨x1, x2, x3⟩ := hX
            rw [x1, z10, cond_false]
            have := c199_in (d := d) (y := y) (p := mIx LS (some cs) k s y 10) hk hs (by decide) x2 (fun i hi => x3 _ (getD_mem hi)) 0 (Nat.zero_le _)
            have e9 : mIx LS (some cs) k s y 11 = (match rowIx cs k s cs.length with | some i => some (16 * 10 + i) | none => mIx LS (some cs) k s y 10) := by
              show (bif Nat.ble LS.length 10 then _ else _) = _
              rw [Nlt hn]; rfl
            refine this.trans ?_
            rw [← e9]
            exact ih 11 (by omega) _ _
        · rw [oeqF q2 (by omega) (by decide), cond_false, c199_no (by omega)]
          have e9 : mIx LS X k s y (l + 1) = mIx LS X k s y l := by
            show (bif Nat.ble LS.length l then _ else _) = _
            rw [Nlt q, Nbf q2]; rfl
          rw [← e9]
          exact ih (l + 1) (by omega) _ _
      · obtain ⟨g1, g2⟩ := hL l (by omega)
        have gw := hW l (by omega)
        have gy : (LS.getD l (0, [])).1 ≤ 40 := gw.1
        rw [Nlf (by omega), cond_false, inbT (by omega) (by decide), cond_true, nI_clamp (by omega), g1, Ob_lt (by omega) (by omega)]
        have e9 : mIx LS X k s y (l + 1) = (bif Nat.ble (LS.getD l (0, [])).1 y then (match rowIx (LS.getD l (0, [])).2 k s (LS.getD l (0, [])).2.length with | some i => some (16 * l + i) | none => mIx LS X k s y l) else mIx LS X k s y l) := by
          show (bif Nat.ble LS.length l then _ else _) = _
          rw [Nlf (by omega)]; rfl
        cases q3 : Nat.ble (LS.getD l (0, [])).1 y with
        | false =>
          rw [q3] at e9
          show Run false (d + 1) 199 65 _ _ _ = _
          rw [c199_no (by omega), show mIx LS X k s y l = mIx LS X k s y (l + 1) from e9.symm]
          exact ih (l + 1) (by omega) _ _
        | true =>
          rw [q3] at e9
          have := c199_in (d := d) (y := y) (p := mIx LS X k s y l) hk hs (by omega) g2 (fun i hi => clW_at gw hi) 0 (Nat.zero_le _)
          refine this.trans ?_
          rw [show (match rowIx (LS.getD l (0, [])).2 k s (LS.getD l (0, [])).2.length with | some i => some (16 * l + i) | none => mIx LS X k s y l) = mIx LS X k s y (l + 1) from e9.symm]
          exact ih (l + 1) (by omega) _ _
  rw [s199_0]
  exact key 11 0 rfl _ _
