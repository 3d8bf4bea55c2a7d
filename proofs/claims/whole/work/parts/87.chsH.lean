/-! THE PURE PROOFS: the cheapest makes: a row in the model -/
def F2x (o k : Nat) : Prop := skF o k = true ∨ (o = 85 ∧ (k = 45 ∨ k = 47 ∨ k = 48))
def A3x (o _j : Nat) : Prop := skA o = true ∨ o = 99 ∨ (111 ≤ o ∧ o ≤ 113)
section CM
variable {d y m n i p k M nW nD least : Nat} {LS : List LAW} {σ τ υ : PS} {row : Rw} {S : SSt}
theorem a3_n {o j : Nat} (h : o ≠ 10 ∧ o ≠ 11 ∧ o ≠ 96 ∧ o ≠ 99 ∧ ¬ (111 ≤ o ∧ o ≤ 113)) : ¬ A3x o j := by
  rintro (h1 | h1 | h1)
  · rw [skA_n (by omega)] at h1; cases h1
  · omega
  · omega
theorem f2_n {o k : Nat} (h : o ≠ 85 ∨ (¬ (23 ≤ k ∧ k ≤ 27) ∧ k ≠ 45 ∧ k ≠ 47 ∧ k ≠ 48)) : ¬ F2x o k := by
  rintro (h1 | h1)
  · by_cases w : o = 85
    · subst w
      have h1' : (Nat.ble 23 k && Nat.ble k 27) = true := h1
      rw [Bool.and_eq_true] at h1'
      have a := Nat.le_of_ble_eq_true h1'.1
      have b := Nat.le_of_ble_eq_true h1'.2
      omega
    · rw [skF_n w] at h1; cases h1
  · omega
theorem fr_A (h : FrP F2x A3x σ τ) {o : Nat} (ho : o ≠ 10 ∧ o ≠ 11 ∧ o ≠ 96 ∧ o ≠ 99 ∧ ¬ (111 ≤ o ∧ o ≤ 113)) : AI τ o = AI σ o := funext fun j => h.2.2.2.2 o j (a3_n ho)
theorem LM_fr {X : Option (List CLS)} (h : FrP F2x A3x σ τ) (g : LM LS X σ) : LM LS X τ := by
  unfold LM rowM clM at g ⊢
  rw [h.2.2.1 85 10 (f2_n (by omega)), h.2.2.1 85 22 (f2_n (by omega)), fr_A h (o := 87) (by omega), fr_A h (o := 88) (by omega), fr_A h (o := 89) (by omega), fr_A h (o := 90) (by omega), fr_A h (o := 91) (by omega), fr_A h (o := 92) (by omega), fr_A h (o := 93) (by omega), fr_A h (o := 94) (by omega), fr_A h (o := 95) (by omega)]
  exact g
theorem ID_fr (h : FrP F2x A3x σ τ) (g : ID σ) : ID τ := by
  unfold ID at g ⊢
  rw [h.2.2.1 85 39 (f2_n (by omega)), h.2.2.1 26 0 (f2_n (by omega)), fr_A h (o := 27) (by omega), fr_A h (o := 28) (by omega), fr_A h (o := 29) (by omega), fr_A h (o := 30) (by omega), fr_A h (o := 105) (by omega), fr_A h (o := 106) (by omega), fr_A h (o := 107) (by omega), fr_A h (o := 108) (by omega), fr_A h (o := 109) (by omega)]
  exact g
theorem dcN_fr {j : Nat} {k : Int32} (h : FrP F2x A3x σ τ) : dcN τ y k j = dcN σ y k j := by
  funext a s
  unfold dcN
  rw [dcl_eq (fr_A h (by omega)) (fr_A h (by omega)) (fr_A h (by omega)) (fr_A h (by omega)) (fr_A h (by omega))]
theorem grM_fr {s : Nat} (h : FrP F2x A3x σ τ) : grM τ p k s = grM σ p k s := by unfold grM; rw [fr_A h (o := 98) (by omega), fr_A h (o := 100) (by omega)]
theorem layM_fr (h : FrP F2x A3x σ τ) : layM τ p k = layM σ p k := by
  unfold layM
  have : (fun s => grM τ p k s) = fun s => grM σ p k s := funext fun s => grM_fr h
  rw [this]
theorem kgM_fr {off most s : Nat} (h : FrP F2x A3x σ τ) : kgM τ off most p k s y = kgM σ off most p k s y := by
  unfold kgM
  rw [grM_fr h, fr_A h (o := 102) (by omega), fr_A h (o := 103) (by omega), fr_A h (o := 104) (by omega)]
theorem mwB_fr {r : Nat} (h : FrP F2x A3x σ τ) : mwB τ LS p k y r = mwB σ LS p k y r := by
  have e1 : ∀ s, grM τ p k s = grM σ p k s := fun s => grM_fr h
  have e2 : layM τ p k = layM σ p k := layM_fr h
  unfold mwB mrB mlB
  simp only [e1, e2]
/-- true kilos of whatever is made -/
theorem c216' {s : Nat} (hd : 4 ≤ d) (hn : FI τ 85 30 = nI n) (hn2 : n ≤ 20) (hs : s ≤ 4) (hy : y ≤ 40) (h : LM LS none τ) (hk5 : ∀ p, p < n → ∃ j, j < 5 ∧ AI τ 99 p = nI j) (ht : ∀ p, p < n → IR 1 50 (AI τ 104 (41 * p + y))) : Run false d 216 0 [some (.ref 85), some (.int (nI m)), some (.int (nI s)), some (.int (nI y)), none, none] [] τ = some (.inl (some (.int (acG (fun a b => a + b) (nI 0) (owP τ m) (fun p => kgM τ (numV (clL LS 2 s y) 100) (numV (clL LS 6 0 y) 1) p (mdN τ p) s y) n)), τ)) := by
  obtain ⟨d, rfl⟩ := dS (show 1 ≤ d by omega)
  rw [s216_0]
  refine (lpU (f := fun j => Run false (d + 1) 216 6 [some (.ref 85), some (.int (nI m)), some (.int (nI s)), some (.int (nI y)), some (.int (acG (fun a b => a + b) (nI 0) (owP τ m) (fun p => kgM τ (numV (clL LS 2 s y) 100) (numV (clL LS 6 0 y) 1) p (mdN τ p) s y) j)), some (.int (nI j))] [] τ) (n := n) (fun j hj => ?_) 0 (Nat.zero_le _)).trans ?_
  · obtain ⟨k, hk, e99⟩ := hk5 j hj
    have em : mdN τ j = k := by unfold mdN; rw [e99, nI_clamp (by omega)]
    have k1 := c214 (d := d) (p := j) (k := k) (s := s) (y := y) (by omega) (by omega) hk hs hy h (ht j hj)
    have k2 : Run false d 214 0 [some (.ref 85), some (.int (nI j)), some (.int (nI k)), some (.int (nI s)), some (.int (nI y)), none, none, none] [] τ = some (.inl (some (.int (kgM τ (numV (clL LS 2 s y) 100) (numV (clL LS 6 0 y) 1) j k s y)), τ)) := k1
    rw [s216_6, hn, oleF hj (by omega), cond_false, inbT (show j < 20 by omega) (by decide), cond_true, cond_true, nI_clamp (by omega), e99, k2, aft_v, s216_43, nI_add]
    show (_ : Option PO) = Run false (d + 1) 216 6 [some (.ref 85), some (.int (nI m)), some (.int (nI s)), some (.int (nI y)), some (.int (bif owP τ m j then acG (fun a b => a + b) (nI 0) (owP τ m) (fun p => kgM τ (numV (clL LS 2 s y) 100) (numV (clL LS 6 0 y) 1) p (mdN τ p) s y) j + kgM τ (numV (clL LS 2 s y) 100) (numV (clL LS 6 0 y) 1) j (mdN τ j) s y else acG (fun a b => a + b) (nI 0) (owP τ m) (fun p => kgM τ (numV (clL LS 2 s y) 100) (numV (clL LS 6 0 y) 1) p (mdN τ p) s y) j)), some (.int (nI (j + 1)))] [] τ
    have eo : obl (AI τ 97 j = nI m) = owP τ m j := rfl
    rw [em, eo]
    cases owP τ m j
    · rw [cond_false, cond_false, nI_z]
    · rfl
  · rw [s216_6, hn, oleT (Nat.le_refl _) (by omega)]
    rfl
/-! the rows of the model: what stands in madeAs -/
noncomputable def MdR (σ τ : PS) (m n : Nat) (row : Rw) : Prop := (∀ p, (∀ i, i < ChN σ m n → pkX σ m n i ≠ p) → AI τ 99 p = AI σ 99 p) ∧ ∀ i, i < ChN σ m n → AI τ 99 (pkX σ m n i) = nI (row i)
theorem rest_n {p : Nat} (h : ¬ (chL (owP σ m) p).length < 5) : ∀ i, i < ChN σ m n → pkX σ m n i ≠ p := fun i hi e => by
  obtain ⟨-, -, c⟩ := chL_at n i hi
  have h5 : ChN σ m n ≤ 5 := chL_5 n
  have e' : (chL (owP σ m) n).getD i 0 = p := e
  rw [e'] at c
  omega
theorem md_r (hM : MdR σ τ m n row) (hr : ∀ j, j < ChN σ m n → row j < 5) : (∀ p, ¬ (chL (owP σ m) p).length < 5 → mdN τ p = mdN σ p) ∧ ∀ i, i < ChN σ m n → mdN τ (pkX σ m n i) = row i := by
  refine ⟨fun p hp => ?_, fun i hi => ?_⟩
  · unfold mdN
    rw [hM.1 p (rest_n hp)]
  · unfold mdN
    rw [hM.2 i hi, nI_clamp (by have := hr i hi; omega)]
theorem ow_fr (h : FrP F2x A3x σ τ) : owP τ m = owP σ m := by
  unfold owP
  rw [fr_A h (o := 97) (by omega)]
theorem tr_eq {s : Nat} (h : FrP F2x A3x σ τ) (hM : MdR σ τ m n row) (hr : ∀ j, j < ChN σ m n → row j < 5) : acG (fun a b => a + b) (nI 0) (owP τ m) (fun p => kgM τ (numV (clL LS 2 s y) 100) (numV (clL LS 6 0 y) 1) p (mdN τ p) s y) n = KKx σ LS y m n s row (ChN σ m n) := by
  obtain ⟨h1, h2⟩ := md_r hM hr
  rw [ow_fr h, ag_all i32_rc]
  unfold KKx kBs
  have e1 : rsG (fun a b => a + b) (nI 0) (owP σ m) (fun p => kgM τ (numV (clL LS 2 s y) 100) (numV (clL LS 6 0 y) 1) p (mdN τ p) s y) n = rsG (fun a b => a + b) (nI 0) (owP σ m) (fun p => kE σ LS y s p (mdN σ p)) n := rsG_c n (fun p hp ho hl => by rw [kgM_fr h, h1 p hl]; rfl)
  rw [e1]
  exact bsG_c _ (fun i hi => by
    show kgM τ _ _ (pkX σ m n i) (mdN τ (pkX σ m n i)) s y = kE σ LS y s (pkX σ m n i) (row i)
    rw [kgM_fr h, h2 i hi]; rfl)
theorem gs_ac {s : Nat} : ∀ n, gsI τ m s n = acG (fun a b => a + b) (nI 0) (owP τ m) (fun p => grM τ p (mdN τ p) s) n := by
  intro n
  induction n with
  | zero => rfl
  | succ n ih => unfold gsI acG; rw [ih]; rfl
theorem ly_ac : ∀ n, lyI τ m n = acG max 0 (owP τ m) (fun p => layM τ p (mdN τ p)) n := by
  intro n
  induction n with
  | zero => rfl
  | succ n ih => unfold lyI acG; rw [ih]; rfl
theorem gs_eq {s : Nat} (h : FrP F2x A3x σ τ) (hM : MdR σ τ m n row) (hr : ∀ j, j < ChN σ m n → row j < 5) : gsI τ m s n = GGx σ m n s row (ChN σ m n) := by
  obtain ⟨h1, h2⟩ := md_r hM hr
  rw [gs_ac, ow_fr h, ag_all i32_rc]
  unfold GGx gBs
  have e1 : rsG (fun a b => a + b) (nI 0) (owP σ m) (fun p => grM τ p (mdN τ p) s) n = rsG (fun a b => a + b) (nI 0) (owP σ m) (fun p => grM σ p (mdN σ p) s) n := rsG_c n (fun p hp ho hl => by rw [grM_fr h, h1 p hl])
  rw [e1]
  exact bsG_c _ (fun i hi => by
    show grM τ (pkX σ m n i) (mdN τ (pkX σ m n i)) s = grM σ (pkX σ m n i) (row i) s
    rw [grM_fr h, h2 i hi])
theorem ly_eq (h : FrP F2x A3x σ τ) (hM : MdR σ τ m n row) (hr : ∀ j, j < ChN σ m n → row j < 5) : lyI τ m n = LLx σ m n row (ChN σ m n) := by
  obtain ⟨h1, h2⟩ := md_r hM hr
  rw [ly_ac, ow_fr h, ag_all max_rc]
  unfold LLx lBs
  have e1 : rsG max 0 (owP σ m) (fun p => layM τ p (mdN τ p)) n = rsG max 0 (owP σ m) (fun p => layM σ p (mdN σ p)) n := rsG_c n (fun p hp ho hl => by rw [layM_fr h, h1 p hl])
  rw [e1]
  exact bsG_c _ (fun i hi => by
    show layM τ (pkX σ m n i) (mdN τ (pkX σ m n i)) = layM σ (pkX σ m n i) (row i)
    rw [layM_fr h, h2 i hi])
/-- what is declared while a maker is tried -/
def dcT (dec : Nat → Nat → Nat) (own : Nat → Nat) (m : Nat) : Nat → Nat → Nat := fun a s => if a = m then own s else dec a s
theorem dcT_s {dec : Nat → Nat → Nat} {own : Nat → Nat} {s : Nat} : ∀ M, (m < M → sumN (fun o => dcT dec own m o s) M + dec m s = own s + sumN (fun o => dec o s) M) ∧ (M ≤ m → sumN (fun o => dcT dec own m o s) M = sumN (fun o => dec o s) M) := by
  intro M
  induction M with
  | zero => exact ⟨fun h => absurd h (Nat.not_lt_zero m), fun _ => rfl⟩
  | succ M ih =>
    have e : ∀ g : Nat → Nat, sumN g (M + 1) = sumN g M + g M := fun g => rfl
    refine ⟨fun h => ?_, fun h => ?_⟩
    · rw [e, e]
      by_cases w : M = m
      · have e1 : dcT dec own m M s = own s := if_pos w
        have := ih.2 (by omega)
        show sumN (fun o => dcT dec own m o s) M + dcT dec own m M s + dec m s = own s + (sumN (fun o => dec o s) M + dec M s)
        rw [this, e1, w]; omega
      · have e1 : dcT dec own m M s = dec M s := if_neg w
        have := ih.1 (by omega)
        show sumN (fun o => dcT dec own m o s) M + dcT dec own m M s + dec m s = own s + (sumN (fun o => dec o s) M + dec M s)
        rw [e1]; omega
    · rw [e, e]
      have e1 : dcT dec own m M s = dec M s := if_neg (by omega)
      have := ih.2 (by omega)
      show sumN (fun o => dcT dec own m o s) M + dcT dec own m M s = sumN (fun o => dec o s) M + dec M s
      rw [this, e1]
theorem oth_b {dec : Nat → Nat → Nat} {s : Nat} (hb : ∀ m s, dec m s ≤ 10000000) (hm : m < M) (hM : M ≤ 10) : sumN (fun o => dec o s) M - dec m s ≤ 90000000 := by
  have h1 := (dcT_s (dec := dec) (own := fun _ => 10000000) (s := s) (m := m) M).1 hm
  have h2 := sumN_le (f := fun o => dcT dec (fun _ => 10000000) m o s) (b := 10000000) M (fun i _ => by
    show (if i = m then 10000000 else dec i s) ≤ 10000000
    split
    · exact Nat.le_refl _
    · exact hb i s)
  have h3 : M * 10000000 ≤ 10 * 10000000 := Nat.mul_le_mul_right _ hM
  have h4 := hb m s
  omega
theorem dm_try (hy : y ≤ 40) (h0 : FrP F2x A3x σ τ) (hM' : LM LS none σ) (hD : ID σ) (hnD : FI σ 85 39 = nI nD) (hnD2 : nD ≤ 200) (hn : FI σ 85 30 = nI n) (hn2 : n ≤ 20) (ht : FI τ 85 45 = nI m) (hm : m < M) (hM : M ≤ 10) (hR : MdR σ τ m n row) (hr : ∀ j, j < ChN σ m n → row j < 5) (hK : ∀ s, s < 5 → owX σ LS y m n row s ≤ 10000000 ∧ KKx σ LS y m n s row (ChN σ m n) = nI (owX σ LS y m n row s)) (hk5 : ∀ p, p < n → ∃ j, j < 5 ∧ AI τ 99 p = nI j) (htr : ∀ p, p < n → IR 1 50 (AI σ 104 (41 * p + y))) : DM τ y (nI nW) M (dcT (dcN σ y (nI nW) nD) (fun s => if s < 5 then owX σ LS y m n row s else 0) m) := by
  refine ⟨fun a s => ?_, fun υ ho d hd a s ha hs => ?_⟩
  · unfold dcT
    split
    · show (if s < 5 then owX σ LS y m n row s else 0) ≤ 10000000
      by_cases w : s < 5
      · rw [if_pos w]; exact (hK s w).1
      · rw [if_neg w]; exact Nat.zero_le _
    · exact (dcN_e hD hnD hnD2).2
  · have e45 : FI υ 85 45 = nI m := (offF ho 85 45 rfl).trans ht
    by_cases w : a = m
    · subst w
      have e1 : dcT (dcN σ y (nI nW) nD) (fun s => if s < 5 then owX σ LS y a n row s else 0) a a s = owX σ LS y a n row s := by
        unfold dcT
        rw [if_pos rfl]
        exact if_pos (by omega)
      obtain ⟨d, rfl⟩ := dS (show 1 ≤ d by omega)
      have k1 := c216' (d := d) (τ := υ) (m := a) (n := n) (s := s) (y := y) (LS := LS) (by omega) ((offF ho 85 30 rfl).trans ((h0.2.2.1 85 30 (f2_n (by omega))).trans hn)) hn2 hs hy (LM_off ho (LM_fr h0 hM')) (fun p hp => by rw [offA ho 99 rfl]; exact hk5 p hp) (fun p hp => by rw [offA ho 104 rfl, fr_A h0 (o := 104) (by omega)]; exact htr p hp)
      have e2 : acG (fun a b => a + b) (nI 0) (owP υ a) (fun p => kgM υ (numV (clL LS 2 s y) 100) (numV (clL LS 6 0 y) 1) p (mdN υ p) s y) n = acG (fun a b => a + b) (nI 0) (owP τ a) (fun p => kgM τ (numV (clL LS 2 s y) 100) (numV (clL LS 6 0 y) 1) p (mdN τ p) s y) n := by
        have e3 : owP υ a = owP τ a := by unfold owP; rw [offA ho 97 rfl]
        have e4 : (fun p => kgM υ (numV (clL LS 2 s y) 100) (numV (clL LS 6 0 y) 1) p (mdN υ p) s y) = fun p => kgM τ (numV (clL LS 2 s y) 100) (numV (clL LS 6 0 y) 1) p (mdN τ p) s y := by
          funext p
          unfold mdN
          rw [kgM_off ho, offA ho 99 rfl]
        rw [e3, e4]
      rw [e2, tr_eq h0 hR hr, (hK s (by omega)).2] at k1
      rw [s219_0, e45, oeqT rfl, cond_true, k1, aft_v, s219_15, e1]
    · have e1 : dcT (dcN σ y (nI nW) nD) (fun s => if s < 5 then owX σ LS y m n row s else 0) m a s = dcN σ y (nI nW) nD a s := if_neg w
      have hDu := ID_off ho (ID_fr h0 hD)
      have e39 : FI υ 85 39 = nI nD := (offF ho 85 39 rfl).trans ((h0.2.2.1 85 39 (f2_n (by omega))).trans hnD)
      rw [c219 (by omega) e39 hnD2 (by rw [e45]; exact fun q => w ((nI_eq (by omega) (by omega)).mp q)), (dcN_e hDu e39 hnD2).1, dcN_off ho, dcN_fr h0, e1]
end CM
