/-! THE PURE PROOFS: what is bought, on both sides -/
noncomputable def opP (σ : PS) (i : Nat) : Nat := (AI σ 135 i).toNatClampNeg
noncomputable def opK (σ : PS) (i : Nat) : Nat := (AI σ 134 i).toNatClampNeg
noncomputable def opG (σ : PS) (s i : Nat) : Bool := obl (AI σ 139 i = nI 0) && obl (AI σ 133 i = nI s)
section BU
variable {d n s E : Nat} {σ : PS}
theorem bu_at (h : IF_ σ) (hq : FI σ 85 75 = nI n) (hq2 : n ≤ 12) {i : Nat} (hi : i < n) : AI σ 72 i = AI σ 133 i ∧ AI σ 73 i = nI (opK σ i) ∧ AI σ 134 i = nI (opK σ i) ∧ AI σ 74 i = nI (opP σ i) ∧ AI σ 135 i = nI (opP σ i) ∧ 1 ≤ opK σ i ∧ obl (AI σ 75 i = (-1 : Int32)) = obl (AI σ 139 i = nI 0) := by
  obtain ⟨n', h1, h2, h3, h4, -⟩ := h
  have : n = n' := (nI_eq (by omega) (by omega)).mp (hq.symm.trans h2)
  subst this
  obtain ⟨f1, -, f3, ⟨v, hv0, hv, f4⟩, f5, ⟨w, -, hw, f6⟩, f7⟩ := h4 i hi
  have eK : opK σ i = v := by unfold opK; rw [f4, nI_clamp (by omega)]
  have eP : opP σ i = w := by unfold opP; rw [f6, nI_clamp (by omega)]
  rw [eK, eP]
  refine ⟨f1, f3.trans f4, f4, f5.trans f6, f6, hv0, ?_⟩
  rcases f7 with ⟨a, b⟩ | ⟨a, b, ⟨c, hc, e⟩, -⟩
  · rw [a, b, obl_t rfl, obl_t rfl]
  · rw [a, b, e, obl_f (nI_m1n (by omega)), obl_f nI_10]
theorem opK_le (h : IFm σ n) {i : Nat} (hi : i < n) : opK σ i ≤ 100000 ∧ opP σ i ≤ 100000 := by
  obtain ⟨⟨v, hv0, hv, f4⟩, w, -, hw, f6⟩ := h i hi
  have eK : opK σ i = v := by unfold opK; rw [f4, nI_clamp (by omega)]
  have eP : opP σ i = w := by unfold opP; rw [f6, nI_clamp (by omega)]
  omega
theorem bu_m (h : IFm σ n) {i : Nat} (hi : i < n) : AI σ 134 i = nI (opK σ i) ∧ AI σ 135 i = nI (opP σ i) := by
  obtain ⟨⟨v, hv0, hv, f4⟩, w, -, hw, f6⟩ := h i hi
  have eK : opK σ i = v := by unfold opK; rw [f4, nI_clamp (by omega)]
  have eP : opP σ i = w := by unfold opP; rw [f6, nI_clamp (by omega)]
  rw [eK, eP]
  exact ⟨f4, f6⟩
theorem smB_le {f : Nat → Nat} {X : Nat} (hf : ∀ i, i < n → f i ≤ 100000) (hn : n ≤ 12) : ∀ j, j ≤ n → smB f j X ≤ 1200000 := by
  intro j hj
  have h1 : smB f j X ≤ j * 100000 := sumN_le j (fun i hi => by
    have h2 := bt_le (X := X) (i := i)
    have h3 : bt X i * f i ≤ 1 * 100000 := Nat.mul_le_mul h2 (hf i (by omega))
    omega)
  have h2 : j * 100000 ≤ 12 * 100000 := Nat.mul_le_mul_right _ (by omega)
  omega
theorem smK_le (h : IFm σ n) (hq2 : n ≤ 12) {X j : Nat} (hj : j ≤ n) : smB (opK σ) j X ≤ 1200000 := smB_le (fun _ hi => (opK_le h hi).1) hq2 j hj
theorem smP_le (h : IFm σ n) (hq2 : n ≤ 12) {X j : Nat} (hj : j ≤ n) : smB (opP σ) j X ≤ 1200000 := smB_le (fun _ hi => (opK_le h hi).2) hq2 j hj
/-- what the class holds of the best so far -/
def RpC (σ τ : PS) (n : Nat) (b : Option Nat) : Prop := Off σ τ ∧ match b with
  | none => FI τ 71 1 = -1
  | some Y => Y < 2 ^ n ∧ FI τ 71 1 = nI Y ∧ FI τ 71 2 = nI (smB (opP σ) n Y) ∧ FI τ 71 3 = nI (smB (opK σ) n Y)
theorem rp_up {τ : PS} {X : Nat} (h : Off σ τ) (hX : X < 2 ^ n) : RpC σ (wFI (wFI (wFI τ 71 1 (nI X)) 71 2 (nI (smB (opP σ) n X))) 71 3 (nI (smB (opK σ) n X))) n (some X) := by
  refine ⟨off_fi (off_fi (off_fi h rfl) rfl) rfl, hX, ?_, ?_, FI_q⟩
  · rw [FI_n (Or.inr (by decide)), FI_n (Or.inr (by decide)), FI_q]
  · rw [FI_n (Or.inr (by decide)), FI_q]
theorem m1lt : obl ((-1 : Int32) < nI 0) = true := obl_t (by decide +kernel)
theorem c120_head {i X : Nat} {b : Option Nat} {τ : PS} (hI : IF_ σ) (hq : FI σ 85 75 = nI n) (hn : n ≤ 12) (hE : E < 2 ^ 63) (hr : i ≤ n) (hX : X < 2 ^ i) (hR : RpC σ τ n b) (hc : prB (opP σ) n b X = true ∨ E ≤ smB (opK σ) n X) : ∃ τ', RpC σ τ' n (bif prB (opP σ) n b X then b else upB (opP σ) (opK σ) n b X) ∧ Run false (d + 1) 120 0 [some (.ref 71), some (.int (nI i)), some (.int (nI X)), some (.int (nI (smB (opP σ) n X))), some (.int (nI (smB (opK σ) n X))), some (.long (lN E)), none, some (.int (nI s))] [] τ = some (.inl (none, τ')) := by
  have hp12 : (2 : Nat) ^ n ≤ 2 ^ 12 := Nat.pow_le_pow_right (by decide) hn
  have hXn : X < 2 ^ n := Nat.lt_of_lt_of_le hX (Nat.pow_le_pow_right (by decide) hr)
  have lK := smK_le (X := X) (ifm_of hI hq hn) hn (Nat.le_refl n)
  have lP := smP_le (X := X) (ifm_of hI hq hn) hn (Nat.le_refl n)
  have hlt : obl (lg_cmp ((nI (smB (opK σ) n X)).toInt64) (lN E) < nI 0) = !Nat.ble E (smB (opK σ) n X) := by rw [lgLt, nI_l (by omega), LLt (by omega) hE]
  rw [s120_0]
  cases b with
  | none =>
    have hE2 : E ≤ smB (opK σ) n X := hc.resolve_left (fun w => by cases w)
    refine ⟨_, rp_up hR.1 hXn, ?_⟩
    have e1 : FI τ 71 1 = -1 := hR.2
    rw [Nlt hE2] at hlt
    simp only [e1, m1lt, hlt, cond_true, cond_false, Bool.not_true]
  | some Y =>
    obtain ⟨o, hY, e1, e2, e3⟩ := hR
    have lKY := smK_le (X := Y) (ifm_of hI hq hn) hn (Nat.le_refl n)
    have lPY := smP_le (X := Y) (ifm_of hI hq hn) hn (Nat.le_refl n)
    have z1 : obl (nI Y < nI 0) = false := oltF (Nat.zero_le _) (by omega)
    have ep : prB (opP σ) n (some Y) X = Nat.blt (smB (opP σ) n Y) (smB (opP σ) n X) := rfl
    by_cases w : smB (opP σ) n Y < smB (opP σ) n X
    · refine ⟨τ, ?_, ?_⟩
      · rw [ep, Nat.blt_eq.mpr w]
        exact ⟨o, hY, e1, e2, e3⟩
      · simp only [e1, z1, e2, oleF w (show smB (opP σ) n X < 2 ^ 31 by omega), cond_true, cond_false]
    · have w2 : Nat.blt (smB (opP σ) n Y) (smB (opP σ) n X) = false := by
        cases q : Nat.blt (smB (opP σ) n Y) (smB (opP σ) n X)
        · rfl
        · exact absurd (Nat.blt_eq.mp q) w
      have hE2 : E ≤ smB (opK σ) n X := hc.resolve_left (fun c => by rw [ep, w2] at c; cases c)
      rw [ep, w2, cond_false]
      rw [Nlt hE2] at hlt
      have le1 : obl (nI (smB (opP σ) n X) ≤ nI (smB (opP σ) n Y)) = true := oleT (by omega) (by omega)
      show ∃ τ', RpC σ τ' n (bif Nat.blt (smB (opP σ) n X) (smB (opP σ) n Y) || Nat.blt (smB (opK σ) n X) (smB (opK σ) n Y) then some X else some Y) ∧ _
      by_cases u1 : smB (opP σ) n X < smB (opP σ) n Y
      · refine ⟨wFI (wFI (wFI τ 71 1 (nI X)) 71 2 (nI (smB (opP σ) n X))) 71 3 (nI (smB (opK σ) n X)), ?_, ?_⟩
        · rw [Nat.blt_eq.mpr u1]
          exact rp_up o hXn
        · simp only [e1, z1, e2, le1, hlt, oltT u1 (show smB (opP σ) n Y < 2 ^ 31 by omega), cond_true, cond_false, Bool.not_true]
      · have b1 : Nat.blt (smB (opP σ) n X) (smB (opP σ) n Y) = false := by
          cases q : Nat.blt (smB (opP σ) n X) (smB (opP σ) n Y)
          · rfl
          · exact absurd (Nat.blt_eq.mp q) u1
        have lt2 : obl (nI (smB (opP σ) n X) < nI (smB (opP σ) n Y)) = false := oltF (by omega) (by omega)
        by_cases u2 : smB (opK σ) n X < smB (opK σ) n Y
        · refine ⟨wFI (wFI (wFI τ 71 1 (nI X)) 71 2 (nI (smB (opP σ) n X))) 71 3 (nI (smB (opK σ) n X)), ?_, ?_⟩
          · rw [Nat.blt_eq.mpr u2, Bool.or_true]
            exact rp_up o hXn
          · simp only [e1, z1, e2, e3, le1, hlt, lt2, oleF u2 (show smB (opK σ) n Y < 2 ^ 31 by omega), cond_true, cond_false, Bool.not_true]
        · have b2 : Nat.blt (smB (opK σ) n X) (smB (opK σ) n Y) = false := by
            cases q : Nat.blt (smB (opK σ) n X) (smB (opK σ) n Y)
            · rfl
            · exact absurd (Nat.blt_eq.mp q) u2
          refine ⟨τ, ?_, ?_⟩
          · rw [b1, b2]
            exact ⟨o, hY, e1, e2, e3⟩
          · simp only [e1, z1, e2, e3, le1, hlt, lt2, oleT (show smB (opK σ) n Y ≤ smB (opK σ) n X by omega) (show smB (opK σ) n X < 2 ^ 31 by omega), cond_true, cond_false, Bool.not_true]
theorem c120_go {i X : Nat} {b : Option Nat} {τ : PS} {R : Option PO} (hI : IF_ σ) (hq : FI σ 85 75 = nI n) (hqc : FI σ 71 0 = nI n) (hn : n ≤ 12) (hE : E < 2 ^ 63) (hr : i ≤ n) (hR : RpC σ τ n b) (hp : prB (opP σ) n b X = false) (hE2 : ¬ E ≤ smB (opK σ) n X) (hRR : (bif obl (nI i < nI n) then (bif inb (nI i) 12 then (bif obl (AI τ 75 i = (-1 : Int32)) then (bif inb (nI i) 12 then (bif obl (AI τ 72 i = nI s) then (bif inb (nI i) 12 then (bif inb (nI i) 12 then aft false (d + 1) 120 129 [some (.ref 71), some (.int (nI i)), some (.int (nI X)), some (.int (nI (smB (opP σ) n X))), some (.int (nI (smB (opK σ) n X))), some (.long (lN E)), none, some (.int (nI s))] [] (Run false d 120 0 [some (.ref 71), some (.int (nI i + (nI 1))), some (.int (nI X ||| ((nI 1) <<< (nI i &&& (31 : Int32))))), some (.int (nI (smB (opP σ) n X) + (AI τ 74 i))), some (.int (nI (smB (opK σ) n X) + (AI τ 73 i))), some (.long (lN E)), none, some (.int (nI s))] [] τ) else none) else none) else Run false (d + 1) 120 129 [some (.ref 71), some (.int (nI i)), some (.int (nI X)), some (.int (nI (smB (opP σ) n X))), some (.int (nI (smB (opK σ) n X))), some (.long (lN E)), none, some (.int (nI s))] [] τ) else none) else Run false (d + 1) 120 129 [some (.ref 71), some (.int (nI i)), some (.int (nI X)), some (.int (nI (smB (opP σ) n X))), some (.int (nI (smB (opK σ) n X))), some (.long (lN E)), none, some (.int (nI s))] [] τ) else none) else some (.inl (none, τ))) = R) : Run false (d + 1) 120 0 [some (.ref 71), some (.int (nI i)), some (.int (nI X)), some (.int (nI (smB (opP σ) n X))), some (.int (nI (smB (opK σ) n X))), some (.long (lN E)), none, some (.int (nI s))] [] τ = R := by
  have hp12 : (2 : Nat) ^ n ≤ 2 ^ 12 := Nat.pow_le_pow_right (by decide) hn
  have lK := smK_le (X := X) (ifm_of hI hq hn) hn (Nat.le_refl n)
  have lP := smP_le (X := X) (ifm_of hI hq hn) hn (Nat.le_refl n)
  have hlt : obl (lg_cmp ((nI (smB (opK σ) n X)).toInt64) (lN E) < nI 0) = true := by rw [lgLt, nI_l (by omega), LLt (by omega) hE, Nlf (by omega)]; rfl
  have e0 : FI τ 71 0 = nI n := (offF hR.1 71 0 rfl).trans hqc
  have ec : (nI i).toNatClampNeg = i := nI_clamp (by omega)
  rw [s120_0, e0, ec]
  cases b with
  | none =>
    have e1 : FI τ 71 1 = -1 := hR.2
    simp only [e1, m1lt, hlt, cond_true]
    exact hRR
  | some Y =>
    obtain ⟨o, hY, e1, e2, e3⟩ := hR
    have lPY := smP_le (X := Y) (ifm_of hI hq hn) hn (Nat.le_refl n)
    have z1 : obl (nI Y < nI 0) = false := oltF (Nat.zero_le _) (by omega)
    have w : ¬ smB (opP σ) n Y < smB (opP σ) n X := fun w => by
      have : Nat.blt (smB (opP σ) n Y) (smB (opP σ) n X) = false := hp
      rw [Nat.blt_eq.mpr w] at this; cases this
    have le1 : obl (nI (smB (opP σ) n X) ≤ nI (smB (opP σ) n Y)) = true := oleT (by omega) (by omega)
    simp only [e1, z1, e2, le1, hlt, cond_true, cond_false]
    exact hRR
theorem c120 (hI : IF_ σ) (hq : FI σ 85 75 = nI n) (hqc : FI σ 71 0 = nI n) (hn : n ≤ 12) (hE : E < 2 ^ 63) : ∀ r X b τ d, r ≤ n → r + 1 ≤ d → X < 2 ^ (n - r) → RpC σ τ n b → ∃ τ', RpC σ τ' n (dfs (opP σ) (opK σ) (opG σ s) n E r X b) ∧ Run false d 120 0 [some (.ref 71), some (.int (nI (n - r))), some (.int (nI X)), some (.int (nI (smB (opP σ) n X))), some (.int (nI (smB (opK σ) n X))), some (.long (lN E)), none, some (.int (nI s))] [] τ = some (.inl (none, τ')) := by
  intro r
  induction r with
  | zero =>
    intro X b τ d hr hd hX hR
    obtain ⟨d, rfl⟩ := dS (show 1 ≤ d by omega)
    unfold dfs
    cases hp : prB (opP σ) n b X
    case true =>
      have := c120_head (d := d) (s := s) hI hq hn hE (Nat.sub_le n 0) hX hR (Or.inl hp)
      rw [hp] at this
      exact this
    case false =>
      by_cases hE2 : E ≤ smB (opK σ) n X
      · have := c120_head (d := d) (s := s) hI hq hn hE (Nat.sub_le n 0) hX hR (Or.inr hE2)
        rw [hp] at this
        rw [Nlt hE2]
        exact this
      · rw [Nlf (Nat.lt_of_not_le hE2)]
        refine ⟨τ, hR, c120_go hI hq hqc hn hE (Nat.sub_le n 0) hR hp hE2 ?_⟩
        rw [oltF (show n ≤ n - 0 by omega) (by omega), cond_false]
  | succ r ih =>
    intro X b τ d hr hd hX hR
    obtain ⟨d, rfl⟩ := dS (show 1 ≤ d by omega)
    unfold dfs
    cases hp : prB (opP σ) n b X
    case true =>
      have := c120_head (d := d) (s := s) hI hq hn hE (Nat.sub_le n (r + 1)) hX hR (Or.inl hp)
      rw [hp] at this
      exact this
    case false =>
      by_cases hE2 : E ≤ smB (opK σ) n X
      · have := c120_head (d := d) (s := s) hI hq hn hE (Nat.sub_le n (r + 1)) hX hR (Or.inr hE2)
        rw [hp] at this
        rw [Nlt hE2]
        exact this
      · rw [Nlf (Nat.lt_of_not_le hE2)]
        have hei : n - r = n - (r + 1) + 1 := by omega
        have ho := hR.1
        have hin : n - (r + 1) < n := by omega
        have hgo := fun R => c120_go (d := d) (s := s) (R := R) hI hq hqc hn hE (Nat.sub_le n (r + 1)) hR hp hE2
        obtain ⟨f1, f2, f3, f4, f5, f6, f7⟩ := bu_at hI hq hn hin
        generalize hi : n - (r + 1) = i at hX hei hin f1 f2 f3 f4 f5 f6 f7 hgo ⊢
        have e2 : (2 : Nat) ^ (i + 1) = 2 ^ i * 2 := Nat.pow_succ ..
        have hX1 : X < 2 ^ (n - r) := by rw [hei, e2]; omega
        have hX2 : X + 2 ^ i < 2 ^ (n - r) := by rw [hei, e2]; omega
        have eg : opG σ s i = (obl (AI σ 139 i = nI 0) && obl (AI σ 133 i = nI s)) := rfl
        have fin : ∀ bb τ1, RpC σ τ1 n bb → ∃ τ', RpC σ τ' n (dfs (opP σ) (opK σ) (opG σ s) n E r X bb) ∧ Run false (d + 1) 120 129 [some (.ref 71), some (.int (nI i)), some (.int (nI X)), some (.int (nI (smB (opP σ) n X))), some (.int (nI (smB (opK σ) n X))), some (.long (lN E)), none, some (.int (nI s))] [] τ1 = some (.inl (none, τ')) := by
          intro bb τ1 h1
          obtain ⟨τ', q1, q2⟩ := ih X bb τ1 d (by omega) (by omega) hX1 h1
          refine ⟨τ', q1, ?_⟩
          rw [s120_129, nI_add, ← hei, q2, aft_n, s120_144]
        cases hu : obl (AI σ 139 i = nI 0)
        case false =>
          rw [eg, hu]
          obtain ⟨τ', q1, q2⟩ := fin b τ hR
          refine ⟨τ', q1, hgo _ ?_⟩
          rw [oltT hin (by omega), cond_true, inbT (by omega) (by decide), cond_true, offA ho 75 rfl, f7, hu, cond_false]
          exact q2
        case true =>
          cases hv : obl (AI σ 133 i = nI s)
          case false =>
            rw [eg, hu, hv]
            obtain ⟨τ', q1, q2⟩ := fin b τ hR
            refine ⟨τ', q1, hgo _ ?_⟩
            rw [oltT hin (by omega), cond_true, inbT (by omega) (by decide), cond_true, offA ho 75 rfl, f7, hu, cond_true, cond_true, offA ho 72 rfl, f1, hv, cond_false]
            exact q2
          case true =>
            rw [eg, hu, hv]
            obtain ⟨τ1, q1, q2⟩ := ih (X + 2 ^ i) b τ d (by omega) (by omega) hX2 hR
            obtain ⟨τ', q3, q4⟩ := fin _ τ1 q1
            refine ⟨τ', q3, hgo _ ?_⟩
            rw [smB_add hX hin, smB_add hX hin] at q2
            rw [oltT hin (by omega), cond_true, inbT (by omega) (by decide), cond_true, offA ho 75 rfl, f7, hu, cond_true, cond_true, offA ho 72 rfl, f1, hv, cond_true, cond_true, cond_true, offA ho 74 rfl, offA ho 73 rfl, f4, f2, nI_add, nI_add, nI_add, bor hX (by omega), ← hei, q2, aft_n]
            exact q4
end BU
