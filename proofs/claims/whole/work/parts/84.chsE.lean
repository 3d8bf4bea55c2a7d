/-! THE PURE PROOFS: the cheapest makes: bounds -/
noncomputable def pkX (σ : PS) (m n i : Nat) : Nat := (chP σ m n).getD i 0
noncomputable def KKx (σ : PS) (LS : List LAW) (y m n s : Nat) (row : Rw) : Nat → Int32 := bsG (fun a b => a + b) (kBs σ LS y m s n) (fun i => kE σ LS y s (pkX σ m n i) (row i))
noncomputable def GGx (σ : PS) (m n s : Nat) (row : Rw) : Nat → Int32 := bsG (fun a b => a + b) (gBs σ m s n) (fun i => grM σ (pkX σ m n i) (row i) s)
noncomputable def LLx (σ : PS) (m n : Nat) (row : Rw) : Nat → Nat := bsG max (lBs σ m n) (fun i => layM σ (pkX σ m n i) (row i))
noncomputable def ChN (σ : PS) (m n : Nat) : Nat := (chP σ m n).length
noncomputable def owX (σ : PS) (LS : List LAW) (y m n : Nat) (row : Rw) (s : Nat) : Nat := (KKx σ LS y m n s row (ChN σ m n)).toNatClampNeg
noncomputable def feX (σ : PS) (LS : List LAW) (y m n least : Nat) (oth : Nat → Nat) (row : Rw) : Nat := if sumN (owX σ LS y m n row) 5 < least then 0 else feeN (fun s => clL LS 0 s y) y (owX σ LS y m n row) (fun s => owX σ LS y m n row s + oth s) (fun s => GGx σ m n s row (ChN σ m n)) (nI (LLx σ m n row (ChN σ m n))) 5
noncomputable def coX (σ : PS) (y m n i k : Nat) : Nat := cnE σ y (pkX σ m n i) k
noncomputable def toX (σ : PS) (LS : List LAW) (y m n least : Nat) (oth : Nat → Nat) (row : Rw) : Nat := coN (coX σ y m n) row (ChN σ m n) + feX σ LS y m n least oth row
noncomputable def bnX (σ : PS) (LS : List LAW) (y m n i k : Nat) : Bool := obl (bnG σ LS y (5 * pkX σ m n i + k) 0)
noncomputable def mkX (σ : PS) (m n i : Nat) : Nat := (AI σ 98 (pkX σ m n i)).toNatClampNeg
section CX
variable {d y m n i p k least : Nat} {LS : List LAW} {σ τ υ : PS} {oth : Nat → Nat} {row : Rw}
theorem kE_b {s : Nat} (hC : LC LS σ) (hP : IP σ) (hp : p < 20) (hk : k < 5) (hs : s < 5) (hy : y ≤ 40) (ht : IR 1 50 (AI σ 104 (41 * p + y))) : ∃ x, x ≤ 200000 ∧ kE σ LS y s p k = nI x := by
  have ho := num_off (atC_ok (clF_C (k := 2) (s := s) (y := y) hC))
  have hm := num_trips (atC_ok (clF_C (k := 6) (s := 0) (y := y) hC))
  unfold kE kgM kgF
  generalize numV (clL LS 2 s y) 100 = off at ho ⊢
  generalize numV (clL LS 6 0 y) 1 = most at hm ⊢
  obtain ⟨-, -, h3, h4, -⟩ := hP
  obtain ⟨-, -, S, a, ha, hS, e1, e2⟩ := h3 (41 * p + y) (by omega)
  obtain ⟨t, t1, t2, t3⟩ := ht
  have hg : ∃ g, g ≤ 200 ∧ grM σ p k s = nI g := by
    unfold grM
    by_cases w : AI σ 98 p = nI 0
    · rw [obl_t w]; exact ⟨0, by decide, rfl⟩
    · rw [obl_f w]
      obtain ⟨-, g, -, g1, g2⟩ := h4 (5 * (5 * p + k) + s) (by omega)
      exact ⟨g, g1, g2⟩
  obtain ⟨g, g1, g2⟩ := hg
  have b1 : off * a ≤ 100 * S := Nat.mul_le_mul ho ha
  have b2 : g * (100 * S - off * a) ≤ 200 * (100 * 1000) := Nat.mul_le_mul g1 (by omega)
  have hT : ∃ T, 1 ≤ T ∧ T ≤ 50 ∧ (bif obl (nI most ≤ nI t) then nI most else nI t) = nI T := by
    by_cases w : most ≤ t
    · rw [oleT w (by omega)]; exact ⟨most, hm.1, hm.2, rfl⟩
    · rw [oleF (by omega) (by omega)]; exact ⟨t, t1, t2, rfl⟩
  obtain ⟨T, T1, T2, T3⟩ := hT
  rw [g2, e1, e2, t3, T3, nI_mul, nI_mul, nI_sub b1, nI_mul, nI_quo (by omega) (by decide), nI_quo (by have := Nat.div_le_self (g * (100 * S - off * a)) 100; omega) (by omega)]
  refine ⟨_, ?_, rfl⟩
  have c1 := Nat.div_le_self (g * (100 * S - off * a) / 100) T
  omega
theorem rs_b {ow : Nat → Bool} {f : Nat → Int32} {b : Nat} : ∀ n, (∀ p, p < n → ∃ x, x ≤ b ∧ f p = nI x) → ∃ X, X ≤ n * b ∧ rsG (fun a b => a + b) (nI 0) ow f n = nI X := by
  intro n
  induction n with
  | zero => intro _; exact ⟨0, Nat.zero_le _, rfl⟩
  | succ n ih =>
    intro h
    obtain ⟨X, h1, h2⟩ := ih (fun p hp => h p (by omega))
    obtain ⟨x, h3, h4⟩ := h n (by omega)
    have e : (n + 1) * b = n * b + b := Nat.succ_mul n b
    show ∃ X, X ≤ (n + 1) * b ∧ (if ow n = true ∧ ¬ (chL ow n).length < 5 then rsG (fun a b => a + b) (nI 0) ow f n + f n else rsG (fun a b => a + b) (nI 0) ow f n) = nI X
    split
    · exact ⟨X + x, by omega, by rw [h2, h4, nI_add]⟩
    · exact ⟨X, by omega, h2⟩
theorem bs_b {g : Nat → Int32} {b0 : Int32} {B b : Nat} (h0 : ∃ X, X ≤ B ∧ b0 = nI X) : ∀ i, (∀ j, j < i → ∃ x, x ≤ b ∧ g j = nI x) → ∃ X, X ≤ B + i * b ∧ bsG (fun a b => a + b) b0 g i = nI X := by
  intro i
  induction i with
  | zero => intro _; obtain ⟨X, h1, h2⟩ := h0; exact ⟨X, by omega, h2⟩
  | succ i ih =>
    intro h
    obtain ⟨X, h1, h2⟩ := ih (fun p hp => h p (by omega))
    obtain ⟨x, h3, h4⟩ := h i (by omega)
    have e : (i + 1) * b = i * b + b := Nat.succ_mul i b
    show ∃ X, X ≤ B + (i + 1) * b ∧ bsG (fun a b => a + b) b0 g i + g i = nI X
    exact ⟨X + x, by omega, by rw [h2, h4, nI_add]⟩
theorem md_5 (hP : IP σ) (hp : p < 20) : mdN σ p < 5 := by
  unfold mdN
  rcases mk_of hP hp with ⟨h1, h2, h3, h4⟩ | ⟨k, n, h1, h2, h3, h4, h5, h6, h7⟩
  · rw [h2, nI_clamp (by decide)]; decide
  · rw [h3, nI_clamp (by omega)]; omega
theorem tr_IR (hP : IP σ) (hn : FI σ 85 30 = nI n) (hn2 : n ≤ 20) (hp : p < n) (hy : y ≤ 40) : IR 1 50 (AI σ 104 (41 * p + y)) := by
  obtain ⟨t, t1, t2, t3, -⟩ := trips_of hP hn hn2 hp hy
  exact ⟨t, t1, t2, t3⟩
theorem pkX_lt {i : Nat} (hi : i < ChN σ m n) : pkX σ m n i < n ∧ AI σ 97 (pkX σ m n i) = nI m := by
  obtain ⟨a, b, -⟩ := chL_at n i hi
  exact ⟨a, (obl_iff _).mp b⟩
theorem KK_b {s : Nat} (hC : LC LS σ) (hP : IP σ) (hn : FI σ 85 30 = nI n) (hn2 : n ≤ 20) (hy : y ≤ 40) (hs : s < 5) (hr : ∀ j, j < ChN σ m n → row j < 5) : owX σ LS y m n row s ≤ 10000000 ∧ KKx σ LS y m n s row (ChN σ m n) = nI (owX σ LS y m n row s) := by
  have h5 : ChN σ m n ≤ 5 := chL_5 n
  obtain ⟨X, h1, h2⟩ := bs_b (b0 := kBs σ LS y m s n) (g := fun i => kE σ LS y s (pkX σ m n i) (row i)) (B := n * 200000) (b := 200000) (rs_b n (fun p hp => kE_b hC hP (by omega) (md_5 hP (by omega)) hs hy (tr_IR hP hn hn2 hp hy))) (ChN σ m n) (fun j hj => by
    have := (pkX_lt hj).1
    exact kE_b hC hP (by omega) (hr j hj) hs hy (tr_IR hP hn hn2 this hy))
  have b1 : n * 200000 ≤ 20 * 200000 := Nat.mul_le_mul_right _ hn2
  have b2 : ChN σ m n * 200000 ≤ 5 * 200000 := Nat.mul_le_mul_right _ h5
  have e : KKx σ LS y m n s row (ChN σ m n) = nI X := h2
  have e2 : owX σ LS y m n row s = X := by unfold owX; rw [e, nI_clamp (by omega)]
  rw [e2]
  exact ⟨by omega, e⟩
theorem fee_b {own all : Nat → Nat} {o : Nat → Option CLS} {g : Nat → Int32} {la : Int32} (h : ∀ s, s < 5 → own s ≤ 10000000) : feeN o y own all g la 5 ≤ 5 * 1000000000 := by
  unfold feeN
  refine sumN_le 5 (fun s hs => ?_)
  have h1 := h s hs
  have h2 := @rtN_le (o s) y (own s) (all s) (g s) la
  have h3 : own s * rtN (o s) y (own s) (all s) (g s) la ≤ 10000000 * 100000 := Nat.mul_le_mul h1 h2
  show own s * rtN (o s) y (own s) (all s) (g s) la / 1000 ≤ 1000000000
  omega
theorem co_b (hP : IP σ) (hn2 : n ≤ 20) (hy : y ≤ 40) (hr : ∀ j, j < ChN σ m n → row j < 5) : ∀ i, i ≤ ChN σ m n → coN (coX σ y m n) row i ≤ i * 1000000 := by
  intro i
  induction i with
  | zero => intro _; exact Nat.zero_le _
  | succ i ih =>
    intro hi
    have h1 := ih (by omega)
    have h2 := (pkX_lt (σ := σ) (m := m) (n := n) (show i < ChN σ m n by omega)).1
    have h3 := (cn_le hP (show pkX σ m n i < 20 by omega) (hr i (by omega)) hy).1
    show coN (coX σ y m n) row i + cnE σ y (pkX σ m n i) (row i) ≤ (i + 1) * 1000000
    omega
end CX
