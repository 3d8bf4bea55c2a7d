/-! THE PURE PROOFS: who is shy -/
theorem spV_c {σ τ : PS} {o m s y : Nat} (h0 : AI τ 140 = AI σ 140) (h1 : AI τ 141 = AI σ 141) (h2 : AI τ 142 = AI σ 142) (h3 : AI τ o = AI σ o) : ∀ n, spV τ o m s y n = spV σ o m s y n := by
  intro n
  induction n with
  | zero => rfl
  | succ n ih => unfold spV; rw [ih, h0, h1, h2, h3]
theorem spN_off {σ τ : PS} {o m s y n : Nat} (h : Off σ τ) (ho : o = 143 ∨ o = 144) : spN τ o m s y n = spN σ o m s y n := by
  unfold spN
  rw [spV_c (offA h 140 rfl) (offA h 141 rfl) (offA h 142 rfl) (by rcases ho with rfl | rfl <;> exact offA h _ rfl)]
theorem aoV_c {σ τ : PS} {s y : Nat} (h0 : AI τ 123 = AI σ 123) (h1 : AI τ 64 = AI σ 64) : ∀ n, aoV τ s y n = aoV σ s y n := by
  intro n
  induction n with
  | zero => rfl
  | succ n ih => unfold aoV; rw [ih, h0, h1]
theorem aoN_off {σ τ : PS} {s y n : Nat} (h : Off σ τ) : aoN τ s y n = aoN σ s y n := by
  unfold aoN
  rw [aoV_c (offA h 123 rfl) (offA h 64 rfl)]
theorem frN_off {σ τ : PS} {m s y nA nL : Nat} (h : Off σ τ) : frN τ m s y nA nL = frN σ m s y nA nL := by
  unfold frN
  rw [aoN_off h, spN_off h (Or.inl rfl), spN_off h (Or.inr rfl)]
theorem toN_off {σ τ : PS} {m s y nA nL : Nat} (h : Off σ τ) : toN τ m s y nA nL = toN σ m s y nA nL := by
  unfold toN
  rw [aoN_off h, spN_off h (Or.inl rfl), spN_off h (Or.inr rfl)]
/-- what stands in out[0], and that nothing is thrown, is no matter -/
theorem spN_z {σ : PS} {o m s y n : Nat} {z : Int64} {v : Int32} : spN (wFI (wAL σ 145 0 z) 85 0 v) o m s y n = spN σ o m s y n := by
  unfold spN
  rw [spV_c (σ := σ) (τ := wFI (wAL σ 145 0 z) 85 0 v) rfl rfl rfl rfl]
theorem aoN_z {σ : PS} {s y n : Nat} {z : Int64} {v : Int32} : aoN (wFI (wAL σ 145 0 z) 85 0 v) s y n = aoN σ s y n := by
  unfold aoN
  rw [aoV_c (σ := σ) (τ := wFI (wAL σ 145 0 z) 85 0 v) rfl rfl]
theorem frN_z {σ : PS} {m s y nA nL : Nat} {z : Int64} {v : Int32} : frN (wFI (wAL σ 145 0 z) 85 0 v) m s y nA nL = frN σ m s y nA nL := by
  unfold frN
  rw [aoN_z, spN_z, spN_z]
theorem toN_z {σ : PS} {m s y nA nL : Nat} {z : Int64} {v : Int32} : toN (wFI (wAL σ 145 0 z) 85 0 v) m s y nA nL = toN σ m s y nA nL := by
  unfold toN
  rw [aoN_z, spN_z, spN_z]
/-- SHY -/
noncomputable def shN (σ : PS) (m s y nA nL dec : Nat) : Nat := if spN σ 143 m s y nA = 0 then 0 else frN σ m s y nA nL - dec
theorem m1_max {v : Nat} (h : v < 2 ^ 30) : (if nI 0 < ((-1 : Int32) - nI v) then ((-1 : Int32) - nI v) else nI 0) = nI 0 := by
  rw [if_neg]
  intro w
  have w1 := Int32.lt_iff_toInt_lt.mp w
  rw [Int32.toInt_sub, nI_toInt (show v < 2 ^ 31 by omega), nI_toInt (by decide), show (-1 : Int32).toInt = -1 by decide +kernel] at w1
  have e : ((-1 : Int) - (v : Int)).bmod (2 ^ 32) = (-1 : Int) - (v : Int) := by apply Int.bmod_eq_of_le <;> omega
  rw [e] at w1
  omega
theorem lmx {a b : Nat} (ha : a < 2 ^ 31) (hb : b < 2 ^ 31) {α : Type} (A : Int32 → α) : (bif obl (nI 0 ≤ lg_cmp (lN a - lN b) (lN 0)) then A (lN a - lN b).toInt32 else A (nI 0)) = A (nI (a - b)) := by
  rw [lgGe]
  by_cases h : b ≤ a
  · rw [lN_sub h, LLb (by decide) (by omega), Nlt (Nat.zero_le _), cond_true, lN_i]
  · rw [obl_f, cond_false, show a - b = 0 by omega]
    intro w
    have w1 := Int64.le_iff_toInt_le.mp w
    rw [Int64.toInt_sub, lN_toInt ha, lN_toInt hb, lN_toInt (by decide)] at w1
    have e : ((a : Int) - (b : Int)).bmod (2 ^ 64) = (a : Int) - (b : Int) := by apply Int.bmod_eq_of_le <;> omega
    rw [e] at w1
    omega
section SH
variable {d m s y nA nL M : Nat} {σ : PS} {dec : Nat → Nat → Nat}
theorem c69 (hd : 4 ≤ d) (h : IM σ) (hO : IO_ σ) (hn : FI σ 78 0 = nI nA) (hn85 : FI σ 85 85 = nI nA) (hn2 : nA ≤ 60) (hL : FI σ 60 0 = nI nL) (hL2 : nL ≤ 60) (hs : s < 5) (hm : m < 10) (hv : AI σ 37 (m * 5 + s) = nI (dec m s)) (hb : dec m s ≤ 10000000) : ∃ τ, Off σ τ ∧ AI τ = AI σ ∧ Run false d 69 0 [some (.ref 0), some (.int (nI m)), some (.int (nI s)), some (.int (nI y)), none] [] σ = some (.inl (some (.int (nI (shN σ m s y nA nL (dec m s)))), τ)) := by
  obtain ⟨d, rfl⟩ := dS (show 1 ≤ d by omega)
  have lA := (ao_e (y := y) hO hL hL2 hs (Nat.le_refl _)).2
  obtain ⟨τ, o1, oA, r1⟩ := c158 (d := d) (y := y) (m := m) (s := s) (A := aoN σ s y nL) (by omega) h hn hn85 hn2 hs hm lA
  refine ⟨τ, o1, oA, ?_⟩
  have hle := sp_le (m := m) (s := s) (y := y) h hn85 hn2
  have hfr : frN σ m s y nA nL ≤ 1200000 := fr_le hle lA
  rw [s69_0, nI_mul, nI_add, c108 (by omega) hO hL hL2 hs, aft_v, s69_19, r1, aft_v, s69_22, c83 (by omega) hm hs, aft_v, s69_36, oA, hv]
  unfold shN
  by_cases q : spN σ 143 m s y nA = 0
  · rw [if_pos q, if_pos q, m1_max (by omega)]
  · rw [if_neg q, if_neg q]
    have hx := mxN (a := frN σ m s y nA nL) (b := dec m s) (by omega) (by omega)
    unfold frN at hx ⊢
    rw [hx]
theorem c263 {k : Int32} (hd : 8 ≤ d) (h : IM σ) (hO : IO_ σ) (hn85 : FI σ 85 85 = nI nA) (hn2 : nA ≤ 60) (hL : FI σ 60 0 = nI nL) (hL2 : nL ≤ 60) (hs : s < 5) (hm : m < M) (hk : FI σ 85 1 = k) (hX : DM σ y k M dec) : ∃ τ, Off σ τ ∧ Run false d 263 0 [some (.ref 85), some (.int (nI m)), some (.int (nI s)), some (.int (nI y)), none, none] [] σ = some (.inl (some (.int (nI (shN σ m s y nA nL (dec m s)))), τ)) := by
  obtain ⟨d, rfl⟩ := dS (show 1 ≤ d by omega)
  have lA := (ao_e (y := y) hO hL hL2 hs (Nat.le_refl _)).2
  have hle := sp_le (m := m) (s := s) (y := y) h hn85 hn2
  have hfr : frN σ m s y nA nL ≤ 1200000 := fr_le hle lA
  have hb := hX.1 m s
  have r1 := c261 (d := d) (m := m) (s := s) (y := y) (nA := nA) (nL := nL) (by omega) h hO hL hL2 hn85 hn2 hs
  unfold shN
  by_cases q : spN σ 143 m s y nA = 0
  · rw [if_pos q, if_pos q] at r1
    refine ⟨σ, off_r, ?_⟩
    rw [s263_0, r1, aft_v, s263_7, z00, cond_true, if_pos q]
  · rw [if_neg q, if_neg q] at r1
    have o1 : Off σ (wFL (wFL σ 85 91 (lN (frN σ m s y nA nL))) 85 92 (lN (toN σ m s y nA nL))) := off_fl (off_fl off_r rfl) rfl
    refine ⟨_, o1, ?_⟩
    have e91 : FL (wFL (wFL σ 85 91 (lN (frN σ m s y nA nL))) 85 92 (lN (toN σ m s y nA nL))) 85 91 = lN (frN σ m s y nA nL) := by rw [FL_n (Or.inr (by decide)), FL_q]
    have e1 : FI (wFL (wFL σ 85 91 (lN (frN σ m s y nA nL))) 85 92 (lN (toN σ m s y nA nL))) 85 1 = k := hk
    rw [s263_0, r1, aft_v, s263_7, z10, cond_false, e91, e1, hX.2 _ o1 d (by omega) m s hm (by omega), aft_v, s263_27, if_neg q, nI_l (by omega)]
    exact lmx (by omega) (by omega) (fun v => some (Sum.inl (some (Value.int v), wFL (wFL σ 85 91 (lN (frN σ m s y nA nL))) 85 92 (lN (toN σ m s y nA nL)))))
end SH
