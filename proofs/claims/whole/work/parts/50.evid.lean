/-! THE PURE PROOFS: evidence, what is short -/
/-- what is noted for a scheme in a sort of a year, as known -/
noncomputable def ntV (σ : PS) (c s y k : Int32) : Nat → Nat
  | 0 => 0
  | i + 1 => ntV σ c s y k i + (bif obl (AI σ 130 i = c) then (bif obl (AI σ 128 i = s) then (bif obl (AI σ 132 i = nI 0) then (bif obl (AI σ 123 (AI σ 127 i).toNatClampNeg = y) then (bif obl (k < AI σ 131 i) then 0 else (AI σ 129 i).toNatClampNeg) else 0) else 0) else 0) else 0)
/-- what it bought -/
noncomputable def ofV (σ : PS) (c s y k : Int32) : Nat → Nat
  | 0 => 0
  | i + 1 => ofV σ c s y k i + (bif obl (AI σ 139 i = nI 0) then 0 else (bif obl (AI σ 136 i = c) then (bif obl (AI σ 133 i = s) then (bif obl (AI σ 137 i = y) then (bif obl (k < AI σ 138 i) then 0 else (AI σ 134 i).toNatClampNeg) else 0) else 0) else 0))
theorem ntV_c {σ τ : PS} {c s y k : Int32} (h1 : AI τ 130 = AI σ 130) (h2 : AI τ 128 = AI σ 128) (h3 : AI τ 132 = AI σ 132) (h4 : AI τ 123 = AI σ 123) (h5 : AI τ 127 = AI σ 127) (h6 : AI τ 131 = AI σ 131) (h7 : AI τ 129 = AI σ 129) : ∀ n, ntV τ c s y k n = ntV σ c s y k n := by
  intro n
  induction n with
  | zero => rfl
  | succ n ih => unfold ntV; rw [ih, h1, h2, h3, h4, h5, h6, h7]
theorem ofV_c {σ τ : PS} {c s y k : Int32} (h1 : AI τ 139 = AI σ 139) (h2 : AI τ 136 = AI σ 136) (h3 : AI τ 133 = AI σ 133) (h4 : AI τ 137 = AI σ 137) (h5 : AI τ 138 = AI σ 138) (h6 : AI τ 134 = AI σ 134) : ∀ n, ofV τ c s y k n = ofV σ c s y k n := by
  intro n
  induction n with
  | zero => rfl
  | succ n ih => unfold ofV; rw [ih, h1, h2, h3, h4, h5, h6]
theorem ntV_off {σ τ : PS} {c s y k : Int32} {n : Nat} (h : Off σ τ) : ntV τ c s y k n = ntV σ c s y k n := ntV_c (offA h 130 rfl) (offA h 128 rfl) (offA h 132 rfl) (offA h 123 rfl) (offA h 127 rfl) (offA h 131 rfl) (offA h 129 rfl) n
theorem ofV_off {σ τ : PS} {c s y k : Int32} {n : Nat} (h : Off σ τ) : ofV τ c s y k n = ofV σ c s y k n := ofV_c (offA h 139 rfl) (offA h 136 rfl) (offA h 133 rfl) (offA h 137 rfl) (offA h 138 rfl) (offA h 134 rfl) n
/-- offers in the model alone -/
def IFm (σ : PS) (n : Nat) : Prop := ∀ i, i < n → IR 1 100000 (AI σ 134 i) ∧ IR 0 100000 (AI σ 135 i)
theorem ifm_of {σ : PS} {n : Nat} (h : IF_ σ) (hq : FI σ 85 75 = nI n) (hq2 : n ≤ 12) : IFm σ n := by
  intro i hi
  obtain ⟨n', h1, h2, h3, h4, -⟩ := h
  have : n = n' := (nI_eq (by omega) (by omega)).mp (hq.symm.trans h2)
  subst this
  obtain ⟨-, -, -, f4, -, f6, -⟩ := h4 i hi
  exact ⟨f4, f6⟩
section EV
variable {d q nO : Nat} {σ : PS} {c s y k : Int32}
/-- what both loops of notes need of one of them -/
theorem nt_at (h : IO_ σ) (hq : FI σ 85 63 = nI q) (hq2 : q ≤ 100) {i : Nat} (hi : i < q) : AI σ 66 i = AI σ 127 i ∧ AI σ 67 i = AI σ 128 i ∧ AI σ 68 i = AI σ 129 i ∧ AI σ 69 i = AI σ 130 i ∧ AI σ 70 i = AI σ 131 i ∧ AI σ 65 i = AI σ 132 i ∧ ∃ l v u, l < 60 ∧ v ≤ 20000 ∧ AI σ 127 i = nI l ∧ AI σ 129 i = nI v ∧ AI σ 61 l = nI u ∧ AI σ 123 l = nI u := by
  obtain ⟨n, q', h1, h2, h3, h4, h5, h6, hL, hN, -⟩ := h
  have : q = q' := (nI_eq (by omega) (by omega)).mp (hq.symm.trans h5)
  subst this
  obtain ⟨f1, ⟨l, hl, f2⟩, f3, -, f5, ⟨v, -, hv, f6⟩, f7, -, f8, -, f9, -⟩ := hN i hi
  obtain ⟨t, u, -, -, -, -, -, -, -, -, -, -, g1, g2, -⟩ := hL l hl
  exact ⟨f1, f3, f5, f7, f8, f9, l, v, u, by omega, hv, f2, f6, g2, g1⟩
theorem of_at (h : IF_ σ) (hq : FI σ 85 75 = nI nO) (hq2 : nO ≤ 12) {i : Nat} (hi : i < nO) : AI σ 72 i = AI σ 133 i ∧ AI σ 73 i = AI σ 134 i ∧ (∃ v, v ≤ 100000 ∧ AI σ 134 i = nI v) ∧ ((AI σ 139 i = nI 0 ∧ AI σ 75 i = -1) ∨ (AI σ 139 i = nI 1 ∧ AI σ 75 i = AI σ 136 i ∧ IX 4 (AI σ 136 i) ∧ AI σ 76 i = AI σ 137 i ∧ AI σ 77 i = AI σ 138 i)) := by
  obtain ⟨n, h1, h2, h3, h4, -⟩ := h
  have : nO = n := (nI_eq (by omega) (by omega)).mp (hq.symm.trans h2)
  subst this
  obtain ⟨f1, -, f3, ⟨v, -, hv, f4⟩, -, -, f5⟩ := h4 i hi
  exact ⟨f1, f3, ⟨v, hv, f4⟩, f5⟩
theorem ntV_le (h : IO_ σ) (hq : FI σ 85 63 = nI q) (hq2 : q ≤ 100) : ∀ j, j ≤ q → ntV σ c s y k j ≤ j * 20000 := by
  intro j
  induction j with
  | zero => intro _; exact Nat.zero_le _
  | succ j ih =>
    intro hj
    obtain ⟨-, -, -, -, -, -, l, v, u, -, hv, -, e, -, -⟩ := nt_at h hq hq2 (show j < q by omega)
    rw [Nat.succ_mul]
    refine Nat.add_le_add (ih (by omega)) ?_
    have hv2 : (AI σ 129 j).toNatClampNeg ≤ 20000 := by rw [e, nI_clamp (by omega)]; exact hv
    cases obl (AI σ 130 j = c)
    · exact Nat.zero_le _
    cases obl (AI σ 128 j = s)
    · exact Nat.zero_le _
    cases obl (AI σ 132 j = nI 0)
    · exact Nat.zero_le _
    cases obl (AI σ 123 (AI σ 127 j).toNatClampNeg = y)
    · exact Nat.zero_le _
    cases obl (k < AI σ 131 j)
    · exact hv2
    · exact Nat.zero_le _
theorem ofV_le (h : IF_ σ) (hq : FI σ 85 75 = nI nO) (hq2 : nO ≤ 12) : ∀ j, j ≤ nO → ofV σ c s y k j ≤ j * 100000 := by
  intro j
  induction j with
  | zero => intro _; exact Nat.zero_le _
  | succ j ih =>
    intro hj
    obtain ⟨-, -, ⟨v, hv, e⟩, -⟩ := of_at h hq hq2 (show j < nO by omega)
    rw [Nat.succ_mul]
    refine Nat.add_le_add (ih (by omega)) ?_
    have hv2 : (AI σ 134 j).toNatClampNeg ≤ 100000 := by rw [e, nI_clamp (by omega)]; exact hv
    cases obl (AI σ 139 j = nI 0)
    case true => exact Nat.zero_le _
    cases obl (AI σ 136 j = c)
    · exact Nat.zero_le _
    cases obl (AI σ 133 j = s)
    · exact Nat.zero_le _
    cases obl (AI σ 137 j = y)
    · exact Nat.zero_le _
    cases obl (k < AI σ 138 j)
    · exact hv2
    · exact Nat.zero_le _
theorem c112 (hd : 1 ≤ d) (h : IO_ σ) (hq : FI σ 85 63 = nI q) (hqc : FI σ 60 1 = nI q) (hq2 : q ≤ 100) : Run false d 112 0 [some (.ref 60), some (.int c), some (.int s), some (.int y), some (.int k), none, none] [] σ = some (.inl (some (.int (nI (ntV σ c s y k q))), σ)) := by
  obtain ⟨d, rfl⟩ := dS hd
  rw [s112_0]
  refine (lpU (f := fun j => Run false (d + 1) 112 6 [some (.ref 60), some (.int c), some (.int s), some (.int y), some (.int k), some (.int (nI (ntV σ c s y k j))), some (.int (nI j))] [] σ) (n := q) (fun j hj => ?_) 0 (Nat.zero_le _)).trans ?_
  · obtain ⟨f1, f2, f3, f4, f5, f6, l, v, u, hl, hv, e1, e2, e3, e4⟩ := nt_at h hq hq2 hj
    show Run false (d + 1) 112 6 _ [] σ = Run false (d + 1) 112 6 [some (.ref 60), some (.int c), some (.int s), some (.int y), some (.int k), some (.int (nI (ntV σ c s y k j + (bif obl (AI σ 130 j = c) then (bif obl (AI σ 128 j = s) then (bif obl (AI σ 132 j = nI 0) then (bif obl (AI σ 123 (AI σ 127 j).toNatClampNeg = y) then (bif obl (k < AI σ 131 j) then 0 else (AI σ 129 j).toNatClampNeg) else 0) else 0) else 0) else 0)))), some (.int (nI (j + 1)))] [] σ
    rw [s112_6]
    simp (disch := omega) only [hqc, oleF, cond_false, inbT, cond_true, nI_clamp, nI_add, f1, f2, f3, f4, f5, f6, e1, e2, e3, e4]
    cases obl (AI σ 130 j = c)
    · rfl
    cases obl (AI σ 128 j = s)
    · rfl
    cases obl (AI σ 132 j = nI 0)
    · rfl
    cases obl (nI u = y)
    · rfl
    cases obl (k < AI σ 131 j) <;> rfl
  · show Run false (d + 1) 112 6 _ [] σ = _
    rw [s112_6, hqc, oleT (Nat.le_refl _) (by omega), cond_true]
theorem c118 {c : Nat} (hc : c < 4) (hd : 1 ≤ d) (h : IF_ σ) (hq : FI σ 85 75 = nI nO) (hqc : FI σ 71 0 = nI nO) (hq2 : nO ≤ 12) : Run false d 118 0 [some (.ref 71), some (.int (nI c)), some (.int s), some (.int y), some (.int k), none, none] [] σ = some (.inl (some (.int (nI (ofV σ (nI c) s y k nO))), σ)) := by
  obtain ⟨d, rfl⟩ := dS hd
  rw [s118_0]
  refine (lpU (f := fun j => Run false (d + 1) 118 6 [some (.ref 71), some (.int (nI c)), some (.int s), some (.int y), some (.int k), some (.int (nI (ofV σ (nI c) s y k j))), some (.int (nI j))] [] σ) (n := nO) (fun j hj => ?_) 0 (Nat.zero_le _)).trans ?_
  · obtain ⟨f1, f2, ⟨v, hv, e1⟩, f3⟩ := of_at h hq hq2 hj
    show Run false (d + 1) 118 6 _ [] σ = Run false (d + 1) 118 6 [some (.ref 71), some (.int (nI c)), some (.int s), some (.int y), some (.int k), some (.int (nI (ofV σ (nI c) s y k j + (bif obl (AI σ 139 j = nI 0) then 0 else (bif obl (AI σ 136 j = nI c) then (bif obl (AI σ 133 j = s) then (bif obl (AI σ 137 j = y) then (bif obl (k < AI σ 138 j) then 0 else (AI σ 134 j).toNatClampNeg) else 0) else 0) else 0))))), some (.int (nI (j + 1)))] [] σ
    rw [s118_6]
    rcases f3 with ⟨a1, a2⟩ | ⟨a1, a2, -, a3, a4⟩
    · have m1 : obl ((-1 : Int32) = nI c) = false := obl_f (fun w => nI_m1n (m := c) (by omega) w.symm)
      simp (disch := omega) only [hqc, oleF, cond_false, inbT, cond_true, nI_clamp, nI_add, a1, a2, m1, z00, oTr]
      try rfl
    · simp (disch := omega) only [hqc, oleF, cond_false, inbT, cond_true, nI_clamp, nI_add, a1, a2, a3, a4, f1, f2, e1, z10]
      cases obl (AI σ 136 j = nI c)
      · rfl
      cases obl (AI σ 133 j = s)
      · rfl
      cases obl (AI σ 137 j = y)
      · rfl
      cases obl (k < AI σ 138 j) <;> rfl
  · show Run false (d + 1) 118 6 _ [] σ = _
    rw [s118_6, hqc, oleT (Nat.le_refl _) (by omega), cond_true]
theorem c251 (hd : 1 ≤ d) (h : IO_ σ) (hF : IFm σ nO) (hq : FI σ 85 63 = nI q) (hq2 : q ≤ 100) (hO : FI σ 85 75 = nI nO) (hO2 : nO ≤ 12) : Run false d 251 0 [some (.ref 85), some (.int c), some (.int s), some (.int y), some (.int k), none, none, none] [] σ = some (.inl (some (.long (lN (ntV σ c s y k q + ofV σ c s y k nO))), σ)) := by
  obtain ⟨d, rfl⟩ := dS hd
  rw [s251_0]
  refine (lpU (f := fun j => Run false (d + 1) 251 6 [some (.ref 85), some (.int c), some (.int s), some (.int y), some (.int k), some (.long (lN (ntV σ c s y k j))), none, some (.int (nI j))] [] σ) (n := q) (fun j hj => ?_) 0 (Nat.zero_le _)).trans ?_
  · obtain ⟨f1, f2, f3, f4, f5, f6, l, v, u, hl, hv, e1, e2, e3, e4⟩ := nt_at h hq hq2 hj
    have el : (nI v).toInt64 = lN v := nI_l (by omega)
    show Run false (d + 1) 251 6 _ [] σ = Run false (d + 1) 251 6 [some (.ref 85), some (.int c), some (.int s), some (.int y), some (.int k), some (.long (lN (ntV σ c s y k j + (bif obl (AI σ 130 j = c) then (bif obl (AI σ 128 j = s) then (bif obl (AI σ 132 j = nI 0) then (bif obl (AI σ 123 (AI σ 127 j).toNatClampNeg = y) then (bif obl (k < AI σ 131 j) then 0 else (AI σ 129 j).toNatClampNeg) else 0) else 0) else 0) else 0)))), none, some (.int (nI (j + 1)))] [] σ
    rw [s251_6]
    simp (disch := omega) only [hq, oleF, cond_false, inbT, cond_true, nI_clamp, nI_add, e1, e2, e3, e4, el, lN_add]
    cases obl (AI σ 130 j = c)
    · rfl
    cases obl (AI σ 128 j = s)
    · rfl
    cases obl (AI σ 132 j = nI 0)
    · rfl
    cases obl (nI u = y)
    · rfl
    cases obl (k < AI σ 131 j) <;> rfl
  · show Run false (d + 1) 251 6 _ [] σ = _
    rw [s251_6, hq, oleT (Nat.le_refl _) (by omega), cond_true]
    refine (lpU (f := fun j => Run false (d + 1) 251 97 [some (.ref 85), some (.int c), some (.int s), some (.int y), some (.int k), some (.long (lN (ntV σ c s y k q + ofV σ c s y k j))), none, some (.int (nI j))] [] σ) (n := nO) (fun j hj => ?_) 0 (Nat.zero_le _)).trans ?_
    · obtain ⟨⟨v, -, hv, e1⟩, -⟩ := hF j hj
      have el : (nI v).toInt64 = lN v := nI_l (by omega)
      show Run false (d + 1) 251 97 _ [] σ = Run false (d + 1) 251 97 [some (.ref 85), some (.int c), some (.int s), some (.int y), some (.int k), some (.long (lN (ntV σ c s y k q + (ofV σ c s y k j + (bif obl (AI σ 139 j = nI 0) then 0 else (bif obl (AI σ 136 j = c) then (bif obl (AI σ 133 j = s) then (bif obl (AI σ 137 j = y) then (bif obl (k < AI σ 138 j) then 0 else (AI σ 134 j).toNatClampNeg) else 0) else 0) else 0)))))), none, some (.int (nI (j + 1)))] [] σ
      rw [s251_97]
      simp (disch := omega) only [hO, oleF, cond_false, inbT, cond_true, nI_clamp, nI_add, e1, el, lN_add]
      cases obl (AI σ 139 j = nI 0)
      case true => rfl
      cases obl (AI σ 136 j = c)
      · rfl
      cases obl (AI σ 133 j = s)
      · rfl
      cases obl (AI σ 137 j = y)
      · rfl
      cases obl (k < AI σ 138 j)
      · exact congrArg (fun x => Run false (d + 1) 251 97 [some (.ref 85), some (.int c), some (.int s), some (.int y), some (.int k), some (.long (lN x)), none, some (.int (nI (j + 1)))] [] σ) (Nat.add_assoc _ _ _)
      · rfl
    · show Run false (d + 1) 251 97 _ [] σ = _
      rw [s251_97, hO, oleT (Nat.le_refl _) (by omega), cond_true]
end EV
section ES
variable {d q nO : Nat} {σ : PS}
theorem c66 {c : Nat} {s y k : Int32} (hc : c < 4) (hd : 2 ≤ d) (h : IO_ σ) (hF : IF_ σ) (hq : FI σ 85 63 = nI q) (hqc : FI σ 60 1 = nI q) (hq2 : q ≤ 100) (hO : FI σ 85 75 = nI nO) (hOc : FI σ 71 0 = nI nO) (hO2 : nO ≤ 12) : Run false d 66 0 [some (.ref 0), some (.int (nI c)), some (.int s), some (.int y), some (.int k)] [] σ = some (.inl (some (.long (lN (ntV σ (nI c) s y k q + ofV σ (nI c) s y k nO))), σ)) := by
  obtain ⟨d, rfl⟩ := dS (show 1 ≤ d by omega)
  have b1 := ntV_le (c := nI c) (s := s) (y := y) (k := k) h hq hq2 q (Nat.le_refl _)
  have b2 := ofV_le (c := nI c) (s := s) (y := y) (k := k) hF hO hO2 nO (Nat.le_refl _)
  have b3 : q * 20000 ≤ 100 * 20000 := Nat.mul_le_mul_right _ hq2
  have b4 : nO * 100000 ≤ 12 * 100000 := Nat.mul_le_mul_right _ hO2
  rw [s66_0, c112 (by omega) h hq hqc hq2, aft_v, s66_12, c118 hc (by omega) hF hO hOc hO2, aft_v, s66_25, nI_l (by omega), nI_l (by omega), lN_add]
/-- SHORT -/
noncomputable def shV (b e : Int64) : Int64 := if b - e < lN 0 then lN 0 else b - e
variable {y M nS : Nat} {LS : List LAW} {dec : Nat → Nat → Nat} {sm : Nat → Prop} {inn smb : Nat → Int32} {k : Int32}
theorem c67 {c s o : Nat} (hd : 6 ≤ d) (hy : y ≤ 40) (h : CW σ LS M nS dec sm inn) (hs : s < 5) (hc : c < nS) (ho : AI σ 84 (s * 41 + y) = nI o) (ho2 : o ≤ 1000000) (hIO : IO_ σ) (hIF : IF_ σ) (hq : FI σ 85 63 = nI q) (hqc : FI σ 60 1 = nI q) (hq2 : q ≤ 100) (hO : FI σ 85 75 = nI nO) (hOc : FI σ 71 0 = nI nO) (hO2 : nO ≤ 12) : ∃ τ, Pt 40 42 σ τ ∧ Run false d 67 0 [some (.ref 0), some (.int (nI c)), some (.int (nI s)), some (.int (nI y)), some (.int k)] [] σ = some (.inl (some (.long (shV (bdV inn (fun m => b1 (sm m)) dec LS y M nS o c s) (lN (ntV σ (nI c) (nI s) (nI y) k q + ofV σ (nI c) (nI s) (nI y) k nO)))), τ)) := by
  obtain ⟨d, rfl⟩ := dS (show 1 ≤ d by omega)
  obtain ⟨τ, p, r⟩ := c65 (d := d) (by omega) hy h hs hc ho ho2
  have oc := pt_C p
  have hS := h.2.2.2.2.2.1
  have hIt : IO_ τ := by
    unfold IO_ at hIO ⊢
    rw [p.2.1, p.2.2.2.1]
    exact hIO
  have hFt : IF_ τ := by
    unfold IF_ at hIF ⊢
    rw [p.2.1, p.2.2.2.1]
    exact hIF
  have r2 := c66 (d := d) (σ := τ) (c := c) (s := nI s) (y := nI y) (k := k) (by omega) (by omega) hIt hFt (by rw [p.2.1]; exact hq) (by rw [p.2.1]; exact hqc) hq2 (by rw [p.2.1]; exact hO) (by rw [p.2.1]; exact hOc) hO2
  rw [ntV_off oc, ofV_off oc] at r2
  refine ⟨τ, p, ?_⟩
  rw [s67_0, r, aft_v, s67_8, r2, aft_v, s67_17]
  rfl
theorem c240 {c s o : Nat} (hd : 12 ≤ d) (hy : y ≤ 40) (h : MW σ LS y k M nS dec smb inn) (hs : s < 5) (hc : c < nS) (ho : AI σ 117 (41 * s + y) = nI o) (ho2 : o ≤ 1000000) (hIO : IO_ σ) (hIF : IFm σ nO) (hq : FI σ 85 63 = nI q) (hq2 : q ≤ 100) (hO : FI σ 85 75 = nI nO) (hO2 : nO ≤ 12) : ∃ τ, Pt 119 121 σ τ ∧ Run false d 240 0 [some (.ref 85), some (.int (nI c)), some (.int (nI s)), some (.int (nI y)), some (.int k), none, none] [] σ = some (.inl (some (.long (shV (bdV inn smb dec LS y M nS o c s) (lN (ntV σ (nI c) (nI s) (nI y) k q + ofV σ (nI c) (nI s) (nI y) k nO)))), τ)) := by
  obtain ⟨d, rfl⟩ := dS (show 1 ≤ d by omega)
  obtain ⟨τ, p, r⟩ := c239 (d := d) (by omega) hy h hs hc ho ho2
  have oc := pt_M p
  have hIt : IO_ τ := by
    unfold IO_ at hIO ⊢
    rw [p.2.1, p.2.2.2.1]
    exact hIO
  have hFt : IFm τ nO := by
    unfold IFm at hIF ⊢
    rw [p.2.2.2.1]
    exact hIF
  have r2 := c251 (d := d) (σ := τ) (c := nI c) (s := nI s) (y := nI y) (k := k) (by omega) hIt hFt (by rw [p.2.1]; exact hq) hq2 (by rw [p.2.1]; exact hO) hO2
  rw [ntV_off oc, ofV_off oc] at r2
  refine ⟨τ, p, ?_⟩
  rw [s240_0, r, aft_v, s240_9, r2, aft_v, s240_18, lgGe]
  unfold shV
  generalize bdV inn smb dec LS y M nS o c s - lN (ntV σ (nI c) (nI s) (nI y) k q + ofV σ (nI c) (nI s) (nI y) k nO) = x
  by_cases w : x < lN 0
  · rw [if_pos w, obl_f (Int64.not_le.mpr w), cond_false]
  · rw [if_neg w, obl_t (Int64.not_lt.mp w), cond_true]
end ES
