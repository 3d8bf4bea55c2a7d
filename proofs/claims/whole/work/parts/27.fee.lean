/-! THE PURE PROOFS: fees -/
theorem lNle {a b : Nat} (ha : a < 2 ^ 63) (hb : b < 2 ^ 63) : lN a ≤ lN b ↔ a ≤ b := by
  unfold lN
  rw [Int64.le_iff_toInt_le, lg_ofNat_toInt ha, lg_ofNat_toInt hb]
  omega
theorem lNeq {a b : Nat} (ha : a < 2 ^ 63) (hb : b < 2 ^ 63) : lN a = lN b ↔ a = b := by
  unfold lN
  constructor
  · intro h
    have := congrArg Int64.toInt h
    rw [lg_ofNat_toInt ha, lg_ofNat_toInt hb] at this
    omega
  · rintro rfl; rfl
theorem LLb {a b : Nat} (ha : a < 2 ^ 63) (hb : b < 2 ^ 63) : obl (lN a ≤ lN b) = Nat.ble a b := by
  by_cases h : a ≤ b
  · rw [obl_t ((lNle ha hb).mpr h), Nlt h]
  · rw [obl_f (fun q => h ((lNle ha hb).mp q)), Nlf (by omega)]
theorem LLe {a b : Nat} (ha : a < 2 ^ 63) (hb : b < 2 ^ 63) : obl (lN a = lN b) = Nat.beq a b := by
  by_cases h : a = b
  · rw [obl_t (by rw [h]), Nbt h]
  · rw [obl_f (fun q => h ((lNeq ha hb).mp q)), Nbf h]
theorem lN_quo {a b : Nat} (ha : a < 2 ^ 63) (hb0 : 0 < b) (hb : b < 2 ^ 63) : lN a / lN b = lN (a / b) := by
  apply Int64.toInt_inj.mp
  have hq : a / b ≤ a := Nat.div_le_self a b
  have e1 : (lN a).toInt = a := lg_ofNat_toInt ha
  have e2 : (lN b).toInt = b := lg_ofNat_toInt hb
  have e3 : (lN (a / b)).toInt = ((a / b : Nat) : Int) := lg_ofNat_toInt (by omega)
  rw [lg_ldiv_nonneg (by rw [e1]; omega) (by rw [e2]; omega), e1, e2, e3]
  rfl
/-- a value between nothing and the highest -/
def clpI (v : Int32) : Int32 := if nI 0 < (if v < nI 100000 then v else nI 100000) then (if v < nI 100000 then v else nI 100000) else nI 0
def clpV (v : Int32) : Nat := (clpI v).toNatClampNeg
theorem clp_m (v : Int32) : clpI v = nI (clpV v) ∧ clpV v ≤ 100000 ∧ ∀ {α : Type} (A : Int32 → α), (bif obl (nI 0 ≤ v) then (bif obl (v ≤ nI 100000) then A v else A (nI 100000)) else A (nI 0)) = A (nI (clpV v)) := by
  have h1 : (nI 100000).toInt = 100000 := by decide +kernel
  have h0 : (nI 0).toInt = 0 := by decide +kernel
  have fin : ∀ n, n ≤ 100000 → clpI v = nI n → clpI v = nI (clpV v) ∧ clpV v ≤ 100000 ∧ clpV v = n := by
    intro n hn e
    have : clpV v = n := by unfold clpV; rw [e, nI_clamp (by omega)]
    exact ⟨by rw [this]; exact e, by omega, this⟩
  by_cases q : nI 0 ≤ v
  · by_cases q2 : v ≤ nI 100000
    · obtain ⟨j, hj, rfl⟩ : ∃ j, j ≤ 100000 ∧ v = nI j := by
        refine nI_of2 (M := nI 100000) h1 (fun w => ?_) q2
        have w1 := Int32.lt_iff_toInt_lt.mp w
        have w2 := Int32.le_iff_toInt_le.mp q
        have w3 : (0 : Int32).toInt = 0 := by decide +kernel
        omega
      have e : clpI (nI j) = nI j := by
        unfold clpI
        by_cases u : j < 100000
        · rw [if_pos (nI_lt u (by omega))]
          by_cases u2 : 0 < j
          · rw [if_pos (nI_lt u2 (by omega))]
          · rw [if_neg (nI_nlt (by omega) (by omega)), show j = 0 by omega]
        · rw [if_neg (nI_nlt (by omega) (by omega)), if_pos (nI_lt (by omega) (by omega)), show j = 100000 by omega]
      obtain ⟨f1, f2, f3⟩ := fin j hj e
      refine ⟨f1, f2, fun A => ?_⟩
      rw [obl_t q, obl_t q2, f3]; rfl
    · have e : clpI v = nI 100000 := by
        unfold clpI
        rw [if_neg (fun w => q2 (Int32.le_of_lt w)), if_pos (nI_lt (by omega) (by omega))]
      obtain ⟨f1, f2, f3⟩ := fin 100000 (by omega) e
      refine ⟨f1, f2, fun A => ?_⟩
      rw [obl_t q, obl_f q2, f3]; rfl
  · have q3 : v.toInt < 0 := by
      have w1 : ¬ (nI 0).toInt ≤ v.toInt := fun w => q (Int32.le_iff_toInt_le.mpr w)
      rw [h0] at w1
      omega
    have e : clpI v = nI 0 := by
      unfold clpI
      rw [if_pos (show v < nI 100000 from Int32.lt_iff_toInt_lt.mpr (by omega)), if_neg (fun w => by have := Int32.lt_iff_toInt_lt.mp w; omega)]
    obtain ⟨f1, f2, f3⟩ := fin 0 (by omega) e
    refine ⟨f1, f2, fun A => ?_⟩
    rw [obl_f q, f3]; rfl
/-- a rate -/
noncomputable def rtN (o : Option CLS) (y own all : Nat) (g la : Int32) : Nat := match o with
  | none => 100
  | some c => clpV (valC (nI y, nI own, nI (own * 100 / all), g, la) c.2.2.2)
theorem rtN_le {o : Option CLS} {y own all : Nat} {g la : Int32} : rtN o y own all g la ≤ 100000 := by
  cases o with
  | none => exact (by decide : 100 ≤ 100000)
  | some c => exact (clp_m _).2.1
noncomputable def feeN (o : Nat → Option CLS) (y : Nat) (own all : Nat → Nat) (g : Nat → Int32) (la : Int32) : Nat → Nat := sumN (fun s => own s * rtN (o s) y (own s) (all s) (g s) la / 1000)
section FE
variable {d y : Nat} {LS : List LAW} {X : Option (List CLS)} {σ : PS}
/-- what a fee is reckoned from -/
def RT (τ : PS) (LS : List LAW) (y : Nat) (own all : Nat → Nat) (g : Nat → Int32) (la : Int32) : Prop := FI τ 43 0 = nI y ∧ FI τ 43 2 = la ∧ ∀ s, s < 5 → own s ≤ all s ∧ all s ≤ 100000000 ∧ AI τ 45 s = nI (own s) ∧ AI τ 46 s = nI (all s - own s) ∧ AI τ 44 s = ixV (lawIx LS 0 s y LS.length) ∧ AI τ 47 s = g s
theorem RT_k {τ υ : PS} {own all : Nat → Nat} {g : Nat → Int32} {la : Int32} (h : Stk τ υ) (hR : RT τ LS y own all g la) : RT υ LS y own all g la := by
  unfold RT at hR ⊢
  rw [stkF h 43 0 rfl, stkF h 43 2 rfl, stkA h 44 rfl, stkA h 45 rfl, stkA h 46 rfl, stkA h 47 rfl]; exact hR
theorem c80 {s : Nat} {own all : Nat → Nat} {g : Nat → Int32} {la : Int32} (hd : 3 ≤ d) (hs : s < 5) (h : LC LS σ) (hR : RT σ LS y own all g la) : ∃ υ, Stk σ υ ∧ Run false d 80 0 [some (.ref 43), some (.ref 1), some (.int (nI s)), none, none, none, none] [] σ = some (.inl (some (.int (nI (if own s = 0 then 0 else rtN (clL LS 0 s y) y (own s) (all s) (g s) la))), υ)) := by
  obtain ⟨d, rfl⟩ := dS (show 1 ≤ d by omega)
  obtain ⟨r1, r2, r3⟩ := hR
  obtain ⟨a1, a2, a3, a4, a5, a6⟩ := r3 s hs
  by_cases q : own s = 0
  · refine ⟨σ, stk_r, ?_⟩
    rw [s80_0, inbT hs (by decide), cond_true, nI_clamp (by omega), a3, oeqT q, cond_true, if_pos q]
  · have hA := clF_C (k := 0) (s := s) (y := y) h
    rw [if_neg q, s80_0, inbT hs (by decide), cond_true, nI_clamp (by omega), a3, oeqF q (by omega) (by omega), cond_false, cond_true, a5]
    cases e1 : lawIx LS 0 s y LS.length with
    | none =>
      cases e2 : clL LS 0 s y with
      | none =>
        refine ⟨σ, stk_r, ?_⟩
        rw [ixV_n, w0m, cond_false]
        rfl
      | some c => rw [e1, e2] at hA; exact hA.elim
    | some ix =>
      cases e2 : clL LS 0 s y with
      | none => rw [e1, e2] at hA; exact hA.elim
      | some c =>
        rw [e1, e2] at hA
        obtain ⟨b1', b2, b3, b4⟩ := hA
        obtain ⟨υ, k1, k2⟩ := c102 (d := d) (F := (nI y, nI (own s), nI (own s * 100 / all s), g s, la)) (by omega) b1' (by omega) b2 (b3.2.2.2.2.2.2.1 b4)
        refine ⟨υ, k1, ?_⟩
        have e3 : (nI (own s)).toInt64 + (nI (all s - own s)).toInt64 = lN (all s) := by
          rw [nI_l (by omega), nI_l (by omega), lN_add, show own s + (all s - own s) = all s by omega]
        have e4 : (((nI (own s)).toInt64 * (lN 100)) / (lN (all s))).toInt32 = nI (own s * 100 / all s) := by
          rw [nI_l (by omega), lN_mul, lN_quo (by omega) (by omega) (by omega), lN_i]
        rw [ixV_s, oleT (Nat.zero_le _) (by omega), cond_true, cond_true, cond_true, a4, e3, lgLe, LLb (by omega) (by omega), Nlf (by omega), cond_false, cond_true, LLe (by omega) (by omega), Nbf (by omega), cond_false, cond_true, cond_true, cond_true, e4, r1, a6, r2, k2, aft_v, s80_97]
        have := (clp_m (valC (nI y, nI (own s), nI (own s * 100 / all s), g s, la) c.2.2.2)).1
        unfold clpI at this
        rw [this]
        rfl
theorem feeN_0 {own all : Nat → Nat} {o : Option CLS} {s : Nat} {g la : Int32} : own s * (if own s = 0 then 0 else rtN o y (own s) (all s) g la) / 1000 = own s * rtN o y (own s) (all s) g la / 1000 := by
  by_cases q : own s = 0
  · rw [q]; simp
  · rw [if_neg q]
theorem c79 {least : Nat} {own all : Nat → Nat} {g : Nat → Int32} {la : Int32} (hd : 4 ≤ d) (h : LC LS σ) (hR : RT σ LS y own all g la) (hl : FI σ 43 1 = nI least) (hl2 : least ≤ 9999) : ∃ υ, Stk σ υ ∧ Run false d 79 0 [some (.ref 43), some (.ref 1), none, none, none, none, none] [] σ = some (.inl (some (.long (lN (if sumN own 5 < least then 0 else feeN (fun s => clL LS 0 s y) y own all g la 5))), υ)) := by
  obtain ⟨d, rfl⟩ := dS (show 1 ≤ d by omega)
  have hob : ∀ s, s < 5 → own s ≤ 100000000 := fun s hs => by have := (hR.2.2 s hs).1; have := (hR.2.2 s hs).2.1; omega
  have ho5 : sumN own 5 ≤ 5 * 100000000 := sumN_le 5 hob
  have p1 : Run false (d + 1) 79 5 [some (.ref 43), some (.ref 1), some (.long (lN (sumN own 0))), none, some (.int (nI 0)), none, none] [] σ = Run false (d + 1) 79 5 [some (.ref 43), some (.ref 1), some (.long (lN (sumN own 5))), none, some (.int (nI 5)), none, none] [] σ := by
    refine lpU (f := fun j => Run false (d + 1) 79 5 [some (.ref 43), some (.ref 1), some (.long (lN (sumN own j))), none, some (.int (nI j)), none, none] [] σ) (n := 5) (fun j hj => ?_) 0 (Nat.zero_le _)
    have := hob j hj
    rw [s79_5, oleF hj (by decide), cond_false, inbT hj (by decide), cond_true, nI_clamp (by omega), (hR.2.2 j hj).2.2.1, nI_l (by omega), lN_add, nI_add]
    rfl
  rw [s79_0]
  have p2 : Run false (d + 1) 79 5 [some (.ref 43), some (.ref 1), some (.long (lN (sumN own 5))), none, some (.int (nI 5)), none, none] [] σ = bif Nat.ble least (sumN own 5) then Run false (d + 1) 79 46 [some (.ref 43), some (.ref 1), some (.long (lN (sumN own 5))), none, some (.long (lN 0)), none, some (.int (nI 0))] [] σ else some (.inl (some (.long (lN 0)), σ)) := by
    rw [s79_5, oleT (Nat.le_refl _) (by decide), cond_true, lgGe, hl, nI_l (by omega), Llb (by omega) (by omega)]
  by_cases q : sumN own 5 < least
  · refine ⟨σ, stk_r, p1.trans (p2.trans ?_)⟩
    rw [Nlf q, cond_false, if_pos q]
  · rw [if_neg q]
    obtain ⟨υ, o1, o2⟩ := lpS (P := fun j υ => Stk σ υ) (R := fun j υ => Run false (d + 1) 79 46 [some (.ref 43), some (.ref 1), some (.long (lN (sumN own 5))), none, some (.long (lN (feeN (fun s => clL LS 0 s y) y own all g la j))), none, some (.int (nI j))] [] υ) (n := 5) (fun j υ hj hp => by
      obtain ⟨υ', k1, k2⟩ := c80 (d := d) (s := j) (by omega) hj (LC_off (stk_off hp) h) (RT_k hp hR)
      refine ⟨υ', stk_t hp k1, ?_⟩
      have b1 := hob j hj
      have b2 : (if own j = 0 then 0 else rtN (clL LS 0 j y) y (own j) (all j) (g j) la) ≤ 100000 := by
        split
        · omega
        · exact rtN_le
      have b3 : own j * (if own j = 0 then 0 else rtN (clL LS 0 j y) y (own j) (all j) (g j) la) ≤ 100000000 * 100000 := Nat.mul_le_mul b1 b2
      show Run false (d + 1) 79 46 _ [] υ = _
      rw [s79_46, oleF hj (by decide), cond_false, inbT hj (by decide), cond_true, nI_clamp (by omega), k2, aft_v, s79_69, LLe (by decide) (by decide), Nbf (by decide), cond_false, stkA hp 45 rfl, (hR.2.2 j hj).2.2.1, nI_l (by omega), nI_l (by omega), lN_mul, lN_quo (by omega) (by decide) (by decide), lN_add, nI_add, feeN_0]
      rfl) 0 σ (Nat.zero_le _) stk_r
    refine ⟨υ, o1, p1.trans (p2.trans ?_)⟩
    rw [Nlt (by omega), cond_true]
    refine o2.trans ?_
    show Run false (d + 1) 79 46 _ [] υ = _
    rw [s79_46, oleT (Nat.le_refl _) (by decide), cond_true]
end FE
