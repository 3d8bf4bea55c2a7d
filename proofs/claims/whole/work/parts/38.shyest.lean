/-! THE PURE PROOFS: the shyest -/
/-- the most so far and where, over makers and sorts in their order -/
def shP (f : Nat → Nat → Nat) : Nat → Nat × Int32
  | 0 => (0, -1)
  | i + 1 => bif Nat.ble (f (i / 5) (i % 5)) (shP f i).1 then shP f i else (f (i / 5) (i % 5), nI (10 * (i / 5) + i % 5))
def zfO (f : Nat → Nat → Nat) : Nat → Option Value
  | 0 => none
  | i + 1 => some (.int (nI (f (i / 5) (i % 5))))
def z5O : Nat → Option Value
  | 0 => none
  | _ + 1 => some (.int (nI 5))
theorem shP_le {f : Nat → Nat → Nat} {b : Nat} (h : ∀ m s, m < 10 → s < 5 → f m s ≤ b) : ∀ i, i ≤ 50 → (shP f i).1 ≤ b := by
  intro i
  induction i with
  | zero => intro _; exact Nat.zero_le _
  | succ i ih =>
    intro hi
    unfold shP
    cases Nat.ble (f (i / 5) (i % 5)) (shP f i).1
    · exact h _ _ (by omega) (by omega)
    · exact ih (by omega)
theorem shP_s {f : Nat → Nat → Nat} {m j : Nat} (hj : j < 5) : shP f (5 * m + (j + 1)) = (bif Nat.ble (f m j) (shP f (5 * m + j)).1 then shP f (5 * m + j) else (f m j, nI (10 * m + j))) ∧ zfO f (5 * m + (j + 1)) = some (.int (nI (f m j))) := by
  have e1 : (5 * m + j) / 5 = m := by omega
  have e2 : (5 * m + j) % 5 = j := by omega
  constructor
  · show (bif Nat.ble (f ((5 * m + j) / 5) ((5 * m + j) % 5)) (shP f (5 * m + j)).1 then shP f (5 * m + j) else (f ((5 * m + j) / 5) ((5 * m + j) % 5), nI (10 * ((5 * m + j) / 5) + (5 * m + j) % 5))) = _
    rw [e1, e2]
  · show some (Value.int (nI (f ((5 * m + j) / 5) ((5 * m + j) % 5)))) = _
    rw [e1, e2]
section SY
variable {d y nA nL M : Nat} {σ : PS} {dec : Nat → Nat → Nat}
theorem shN_le {m s v : Nat} (hI : Inv σ) (hn85 : FI σ 85 85 = nI nA) (hn2 : nA ≤ 60) (hL : FI σ 60 0 = nI nL) (hL2 : nL ≤ 60) (hs : s < 5) : shN σ m s y nA nL v ≤ 1200000 := by
  have lA := (ao_e (y := y) hI.2.2.2.2.2.1 hL hL2 hs (Nat.le_refl _)).2
  have hle := sp_le (m := m) (s := s) (y := y) hI.2.2.2.2.2.2.2.1 hn85 hn2
  have hfr : frN σ m s y nA nL ≤ 1200000 := fr_le hle lA
  unfold shN
  split <;> omega
theorem shN_off {τ : PS} {m s v : Nat} (h : Off σ τ) : shN τ m s y nA nL v = shN σ m s y nA nL v := by
  unfold shN
  rw [spN_off h (Or.inl rfl), frN_off h]
theorem c39_lp (hd : 4 ≤ d) (hI : Inv σ) (hn : FI σ 78 0 = nI nA) (hn85 : FI σ 85 85 = nI nA) (hn2 : nA ≤ 60) (hL : FI σ 60 0 = nI nL) (hL2 : nL ≤ 60) (hM : FI σ 0 1 = nI M) (hM2 : M ≤ 10) (hv : ∀ m s, m < M → s < 5 → AI σ 37 (m * 5 + s) = nI (dec m s)) (hb : ∀ m s, dec m s ≤ 10000000) : ∃ τ, Off σ τ ∧ Run false (d + 1) 39 20 [some (.ref 0), some (.int (nI y)), some (.int (nI 0)), some (.int (-1 : Int32)), some (.int (nI 0)), none, none] [] σ = some (.inl (some (.int (shP (fun m s => shN σ m s y nA nL (dec m s)) (5 * M)).2), τ)) := by
  have hfb : ∀ m s, m < 10 → s < 5 → shN σ m s y nA nL (dec m s) ≤ 1200000 := fun m s _ hs => shN_le hI hn85 hn2 hL hL2 hs
  generalize hf : (fun m s => shN σ m s y nA nL (dec m s)) = f
  have hfe : ∀ m s, shN σ m s y nA nL (dec m s) = f m s := fun m s => by rw [← hf]
  have hfl : ∀ m s, m < 10 → s < 5 → f m s ≤ 1200000 := fun m s h1 h2 => by rw [← hfe]; exact hfb m s h1 h2
  obtain ⟨τ, ⟨o1, o2⟩, r1⟩ := lpS (P := fun m τ => Off σ τ ∧ AI τ = AI σ) (R := fun m τ => Run false (d + 1) 39 20 [some (.ref 0), some (.int (nI y)), some (.int (nI (shP f (5 * m)).1)), some (.int (shP f (5 * m)).2), some (.int (nI m)), z5O m, zfO f (5 * m)] [] τ) (n := M) (fun m τ hm hp => by
    obtain ⟨τ', hp', r2⟩ := lpS (P := fun j τ => Off σ τ ∧ AI τ = AI σ) (R := fun j τ => Run false (d + 1) 39 32 [some (.ref 0), some (.int (nI y)), some (.int (nI (shP f (5 * m + j)).1)), some (.int (shP f (5 * m + j)).2), some (.int (nI m)), some (.int (nI j)), zfO f (5 * m + j)] [] τ) (n := 5) (fun j τ hj hp => by
      obtain ⟨q1, q2⟩ := hp
      have hIt := Inv_off q1 hI
      have hd1 := hv m j hm hj
      obtain ⟨τ', k1, k2, k3⟩ := c69 (σ := τ) (d := d) (m := m) (s := j) (y := y) (nA := nA) (nL := nL) (dec := dec) (by omega) hIt.2.2.2.2.2.2.2.1 hIt.2.2.2.2.2.1 ((offF q1 78 0 rfl).trans hn) ((offF q1 85 85 rfl).trans hn85) hn2 ((offF q1 60 0 rfl).trans hL) hL2 hj (by omega) (by rw [q2]; exact hd1) (hb m j)
      rw [shN_off q1, hfe] at k3
      refine ⟨τ', ⟨off_t q1 k1, k2.trans q2⟩, ?_⟩
      have l1 := hfl m j (by omega) hj
      have l2 := shP_le hfl (5 * m + j) (by omega)
      obtain ⟨s1, s2⟩ := shP_s (f := f) (m := m) hj
      show Run false (d + 1) 39 32 [some (.ref 0), some (.int (nI y)), some (.int (nI (shP f (5 * m + j)).1)), some (.int (shP f (5 * m + j)).2), some (.int (nI m)), some (.int (nI j)), zfO f (5 * m + j)] [] τ = Run false (d + 1) 39 32 [some (.ref 0), some (.int (nI y)), some (.int (nI (shP f (5 * m + (j + 1))).1)), some (.int (shP f (5 * m + (j + 1))).2), some (.int (nI m)), some (.int (nI (j + 1))), zfO f (5 * m + (j + 1))] [] τ'
      rw [s1, s2, s39_32, oleF hj (by decide), cond_false, k3, aft_v, s39_47, Olb (by omega) (by omega), nI_mul, nI_add, nI_add]
      cases Nat.ble (f m j) (shP f (5 * m + j)).1 <;> rfl) 0 τ (Nat.zero_le _) hp
    refine ⟨τ', hp', ?_⟩
    have e17 : FI τ 0 1 = nI M := (offF hp.1 0 1 rfl).trans hM
    show Run false (d + 1) 39 20 _ [] τ = _
    rw [s39_20, e17, oleF hm (by omega), cond_false]
    refine r2.trans ?_
    show Run false (d + 1) 39 32 _ [] τ' = _
    rw [s39_32, oleT (Nat.le_refl _) (by decide), cond_true, nI_add]
    rfl) 0 σ (Nat.zero_le _) ⟨off_r, rfl⟩
  refine ⟨τ, o1, ?_⟩
  refine r1.trans ?_
  have e17 : FI τ 0 1 = nI M := (offF o1 0 1 rfl).trans hM
  show Run false (d + 1) 39 20 _ [] τ = _
  rw [s39_20, e17, oleT (Nat.le_refl _) (by omega), cond_true]
theorem c265_lp {k : Int32} (hd : 8 ≤ d) (hI : Inv σ) (hn85 : FI σ 85 85 = nI nA) (hn2 : nA ≤ 60) (hL : FI σ 60 0 = nI nL) (hL2 : nL ≤ 60) (hM : FI σ 85 29 = nI M) (hM2 : M ≤ 10) (hk : FI σ 85 1 = k) (hX : DM σ y k 10 dec) : ∃ τ, Off σ τ ∧ Run false (d + 1) 265 26 [some (.ref 85), some (.int (nI y)), some (.int (-1 : Int32)), some (.int (nI 0)), some (.int (nI 0)), none, none] [] σ = some (.inl (some (.int (shP (fun m s => shN σ m s y nA nL (dec m s)) (5 * M)).2), τ)) := by
  have hfb : ∀ m s, m < 10 → s < 5 → shN σ m s y nA nL (dec m s) ≤ 1200000 := fun m s _ hs => shN_le hI hn85 hn2 hL hL2 hs
  generalize hf : (fun m s => shN σ m s y nA nL (dec m s)) = f
  have hfe : ∀ m s, shN σ m s y nA nL (dec m s) = f m s := fun m s => by rw [← hf]
  have hfl : ∀ m s, m < 10 → s < 5 → f m s ≤ 1200000 := fun m s h1 h2 => by rw [← hfe]; exact hfb m s h1 h2
  obtain ⟨τ, o1, r1⟩ := lpS (P := fun m τ => Off σ τ) (R := fun m τ => Run false (d + 1) 265 26 [some (.ref 85), some (.int (nI y)), some (.int (shP f (5 * m)).2), some (.int (nI (shP f (5 * m)).1)), some (.int (nI m)), z5O m, zfO f (5 * m)] [] τ) (n := M) (fun m τ hm hp => by
    obtain ⟨τ', hp', r2⟩ := lpS (P := fun j τ => Off σ τ) (R := fun j τ => Run false (d + 1) 265 38 [some (.ref 85), some (.int (nI y)), some (.int (shP f (5 * m + j)).2), some (.int (nI (shP f (5 * m + j)).1)), some (.int (nI m)), some (.int (nI j)), zfO f (5 * m + j)] [] τ) (n := 5) (fun j τ hj q1 => by
      have hIt := Inv_off q1 hI
      obtain ⟨τ', k1, k3⟩ := c263 (σ := τ) (d := d) (m := m) (s := j) (y := y) (nA := nA) (nL := nL) (dec := dec) (M := 10) (by omega) hIt.2.2.2.2.2.2.2.1 hIt.2.2.2.2.2.1 ((offF q1 85 85 rfl).trans hn85) hn2 ((offF q1 60 0 rfl).trans hL) hL2 hj (by omega) ((offF q1 85 1 rfl).trans hk) (DM_off hX q1)
      rw [shN_off q1, hfe] at k3
      refine ⟨τ', off_t q1 k1, ?_⟩
      have l1 := hfl m j (by omega) hj
      have l2 := shP_le hfl (5 * m + j) (by omega)
      obtain ⟨s1, s2⟩ := shP_s (f := f) (m := m) hj
      show Run false (d + 1) 265 38 [some (.ref 85), some (.int (nI y)), some (.int (shP f (5 * m + j)).2), some (.int (nI (shP f (5 * m + j)).1)), some (.int (nI m)), some (.int (nI j)), zfO f (5 * m + j)] [] τ = Run false (d + 1) 265 38 [some (.ref 85), some (.int (nI y)), some (.int (shP f (5 * m + (j + 1))).2), some (.int (nI (shP f (5 * m + (j + 1))).1)), some (.int (nI m)), some (.int (nI (j + 1))), zfO f (5 * m + (j + 1))] [] τ'
      rw [s1, s2, s265_38, oleF hj (by decide), cond_false, k3, aft_v, s265_53, Ob_lt (by omega) (by omega), nI_mul, nI_add, nI_add]
      cases Nat.ble (f m j) (shP f (5 * m + j)).1 <;> rfl) 0 τ (Nat.zero_le _) hp
    refine ⟨τ', hp', ?_⟩
    have e17 : FI τ 85 29 = nI M := (offF hp 85 29 rfl).trans hM
    show Run false (d + 1) 265 26 _ [] τ = _
    rw [s265_26, e17, oleF hm (by omega), cond_false]
    refine r2.trans ?_
    show Run false (d + 1) 265 38 _ [] τ' = _
    rw [s265_38, oleT (Nat.le_refl _) (by decide), cond_true, nI_add]
    rfl) 0 σ (Nat.zero_le _) off_r
  refine ⟨τ, o1, ?_⟩
  refine r1.trans ?_
  have e17 : FI τ 85 29 = nI M := (offF o1 85 29 rfl).trans hM
  show Run false (d + 1) 265 26 _ [] τ = _
  rw [s265_26, e17, oleT (Nat.le_refl _) (by omega), cond_true]
end SY
