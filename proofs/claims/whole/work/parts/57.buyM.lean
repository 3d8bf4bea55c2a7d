/-! THE PURE PROOFS: what is bought: the model's search -/
/-- all bits below j are of offers that may be taken -/
noncomputable def gbN (g : Nat → Bool) (X : Nat) : Nat → Bool
  | 0 => true
  | j + 1 => gbN g X j && (Nat.beq (bt X j) 0 || g j)
theorem gb_ok {g : Nat → Bool} {X : Nat} : ∀ n, gbN g X n = true ↔ gdB g n X := by
  intro n
  induction n with
  | zero => exact ⟨fun _ j hj => absurd hj (by omega), fun _ => rfl⟩
  | succ n ih =>
    show (gbN g X n && (Nat.beq (bt X n) 0 || g n)) = true ↔ _
    rw [Bool.and_eq_true, Bool.or_eq_true, ih]
    have b := bt_le (X := X) (i := n)
    constructor
    · rintro ⟨h1, h2⟩ j hj q
      rcases Nat.lt_or_ge j n with w | w
      · exact h1 j w q
      · have : j = n := by omega
        subst this
        rcases h2 with h2 | h2
        · rw [Nat.eq_of_beq_eq_true h2] at q; cases q
        · exact h2
    · intro h
      refine ⟨fun j hj q => h j (by omega) q, ?_⟩
      by_cases w : bt X n = 0
      · left; exact Nbt w
      · right; exact h n (by omega) (by omega)
noncomputable def bo1 (b : Bool) : Int32 := bif b then nI 1 else nI 0
def mA6 (b : Option Nat) : Int32 := match b with | none => nI 0 | some _ => nI 1
noncomputable def mA7 (σ : PS) (n : Nat) (b : Option Nat) : Int32 := match b with | none => nI 0 | some Y => nI (smB (opK σ) n Y)
def mSet (b : Option Nat) : Int32 := match b with | none => nI 0 | some Y => nI Y
noncomputable def mPri (σ : PS) (n : Nat) (b : Option Nat) : Int32 := match b with | none => nI 0 | some Y => nI (smB (opP σ) n Y)
def RpM (σ τ : PS) (n : Nat) (b : Option Nat) : Prop := Off σ τ ∧ FI τ 85 83 = mSet b ∧ FI τ 85 84 = mPri σ n b ∧ ∀ Y, b = some Y → Y < 2 ^ n
section BM
variable {d n s E : Nat} {σ : PS}
theorem rm_up {τ : PS} {X : Nat} (h : Off σ τ) (hX : X < 2 ^ n) : RpM σ (wFI (wFI τ 85 83 (nI X)) 85 84 (nI (smB (opP σ) n X))) n (some X) := by
  refine ⟨off_fi (off_fi h rfl) rfl, ?_, FI_q, fun Y q => ?_⟩
  · rw [FI_n (Or.inr (by decide)), FI_q]; rfl
  · injection q with q
    subst q
    exact hX
/-- one set -/
theorem c254_s {a1 a3 : Int32} {X : Nat} {τ : PS} {u9 u10 u11 u12 : Option Value} (hd : 1 ≤ d) (hI : IFm σ n) (hq : FI σ 85 75 = nI n) (hn : n ≤ 12) (hE : E < 2 ^ 63) (hX : X < 2 ^ n) (hR : RpM σ τ n (mdB (opP σ) (opK σ) (opG σ s) n E X)) : ∃ (w9 w10 w11 w12 : Int32) (τ' : PS), RpM σ τ' n (mdB (opP σ) (opK σ) (opG σ s) n E (X + 1)) ∧ Run false (d + 1) 254 41 [some (.ref 85), some (.int a1), some (.int (nI s)), some (.int a3), some (.long (lN E)), none, some (.int (mA6 (mdB (opP σ) (opK σ) (opG σ s) n E X))), some (.int (mA7 σ n (mdB (opP σ) (opK σ) (opG σ s) n E X))), some (.int (nI X)), u9, u10, u11, u12] [] τ = Run false (d + 1) 254 41 [some (.ref 85), some (.int a1), some (.int (nI s)), some (.int a3), some (.long (lN E)), none, some (.int (mA6 (mdB (opP σ) (opK σ) (opG σ s) n E (X + 1)))), some (.int (mA7 σ n (mdB (opP σ) (opK σ) (opG σ s) n E (X + 1)))), some (.int (nI (X + 1))), some (.int w9), some (.int w10), some (.int w11), some (.int w12)] [] τ' := by
  have hp12 : (2 : Nat) ^ n ≤ 2 ^ 12 := Nat.pow_le_pow_right (by decide) hn
  obtain ⟨ho, e83, e84, hlt⟩ := hR
  have e75 : FI τ 85 75 = nI n := (offF ho 85 75 rfl).trans hq
  have lK := smK_le (X := X) hI hn (Nat.le_refl n)
  have lP := smP_le (X := X) hI hn (Nat.le_refl n)
  -- the sums
  have p1 : ∀ a6 a7, Run false (d + 1) 254 41 [some (.ref 85), some (.int a1), some (.int (nI s)), some (.int a3), some (.long (lN E)), none, some (.int a6), some (.int a7), some (.int (nI X)), u9, u10, u11, u12] [] τ = Run false (d + 1) 254 64 [some (.ref 85), some (.int a1), some (.int (nI s)), some (.int a3), some (.long (lN E)), none, some (.int a6), some (.int a7), some (.int (nI X)), some (.int (nI (smB (opK σ) n X))), some (.int (nI (smB (opP σ) n X))), some (.int (bo1 (gbN (opG σ s) X n))), some (.int (nI n))] [] τ := by
    intro a6 a7
    rw [s254_41, e75, shl1 hn, oleF hX (by omega), cond_false]
    refine lpU (f := fun j => Run false (d + 1) 254 64 [some (.ref 85), some (.int a1), some (.int (nI s)), some (.int a3), some (.long (lN E)), none, some (.int a6), some (.int a7), some (.int (nI X)), some (.int (nI (smB (opK σ) j X))), some (.int (nI (smB (opP σ) j X))), some (.int (bo1 (gbN (opG σ s) X j))), some (.int (nI j))] [] τ) (n := n) (fun j hj => ?_) 0 (Nat.zero_le _)
    obtain ⟨f3, f5⟩ := bu_m hI hj
    have b := bt_le (X := X) (i := j)
    show Run false (d + 1) 254 64 _ [] τ = Run false (d + 1) 254 64 [some (.ref 85), some (.int a1), some (.int (nI s)), some (.int a3), some (.long (lN E)), none, some (.int a6), some (.int a7), some (.int (nI X)), some (.int (nI (smB (opK σ) j X + bt X j * opK σ j))), some (.int (nI (smB (opP σ) j X + bt X j * opP σ j))), some (.int (bo1 (gbN (opG σ s) X j && (Nat.beq (bt X j) 0 || opG σ s j)))), some (.int (nI (j + 1)))] [] τ
    rw [s254_64, e75, oleF hj (by omega), cond_false, bit_i (by omega) (by omega)]
    by_cases q : bt X j = 0
    · rw [q, z00, cond_true, Nat.zero_mul, Nat.zero_mul, Nat.add_zero, Nat.add_zero, nI_add]
      show _ = Run false (d + 1) 254 64 [some (.ref 85), some (.int a1), some (.int (nI s)), some (.int a3), some (.long (lN E)), none, some (.int a6), some (.int a7), some (.int (nI X)), some (.int (nI (smB (opK σ) j X))), some (.int (nI (smB (opP σ) j X))), some (.int (bo1 (gbN (opG σ s) X j && true))), some (.int (nI (j + 1)))] [] τ
      rw [Bool.and_true]
    · have q1 : bt X j = 1 := by omega
      rw [q1, z10, cond_false, Nat.one_mul, Nat.one_mul, inbT (by omega) (by decide), nI_clamp (by omega), offA ho 134 rfl, offA ho 135 rfl, offA ho 139 rfl, offA ho 133 rfl, f3, f5, nI_add, nI_add, nI_add]
      show _ = Run false (d + 1) 254 64 [some (.ref 85), some (.int a1), some (.int (nI s)), some (.int a3), some (.long (lN E)), none, some (.int a6), some (.int a7), some (.int (nI X)), some (.int (nI (smB (opK σ) j X + opK σ j))), some (.int (nI (smB (opP σ) j X + opP σ j))), some (.int (bo1 (gbN (opG σ s) X j && (obl (AI σ 139 j = nI 0) && obl (AI σ 133 j = nI s))))), some (.int (nI (j + 1)))] [] τ
      cases gbN (opG σ s) X j
      · show (bif obl (nI 0 = nI 0) then _ else _) = _
        rw [z00]; rfl
      · show (bif obl (nI 1 = nI 0) then _ else _) = _
        rw [z10]
        cases obl (AI σ 139 j = nI 0)
        · rfl
        · cases obl (AI σ 133 j = nI s) <;> rfl
  rw [p1]
  -- no better
  have no : ∀ (w9 w10 w11 w12 : Int32) (b : Option Nat), mdB (opP σ) (opK σ) (opG σ s) n E X = b → mdB (opP σ) (opK σ) (opG σ s) n E (X + 1) = b → Run false (d + 1) 254 64 [some (.ref 85), some (.int a1), some (.int (nI s)), some (.int a3), some (.long (lN E)), none, some (.int (mA6 b)), some (.int (mA7 σ n b)), some (.int (nI X)), some (.int (nI (smB (opK σ) n X))), some (.int (nI (smB (opP σ) n X))), some (.int (bo1 (gbN (opG σ s) X n))), some (.int (nI n))] [] τ = Run false (d + 1) 254 41 [some (.ref 85), some (.int a1), some (.int (nI s)), some (.int a3), some (.long (lN E)), none, some (.int (mA6 b)), some (.int (mA7 σ n b)), some (.int (nI X + nI 1)), some (.int w9), some (.int w10), some (.int w11), some (.int w12)] [] τ → ∃ (w9 w10 w11 w12 : Int32) (τ' : PS), RpM σ τ' n (mdB (opP σ) (opK σ) (opG σ s) n E (X + 1)) ∧ Run false (d + 1) 254 64 [some (.ref 85), some (.int a1), some (.int (nI s)), some (.int a3), some (.long (lN E)), none, some (.int (mA6 (mdB (opP σ) (opK σ) (opG σ s) n E X))), some (.int (mA7 σ n (mdB (opP σ) (opK σ) (opG σ s) n E X))), some (.int (nI X)), some (.int (nI (smB (opK σ) n X))), some (.int (nI (smB (opP σ) n X))), some (.int (bo1 (gbN (opG σ s) X n))), some (.int (nI n))] [] τ = Run false (d + 1) 254 41 [some (.ref 85), some (.int a1), some (.int (nI s)), some (.int a3), some (.long (lN E)), none, some (.int (mA6 (mdB (opP σ) (opK σ) (opG σ s) n E (X + 1)))), some (.int (mA7 σ n (mdB (opP σ) (opK σ) (opG σ s) n E (X + 1)))), some (.int (nI (X + 1))), some (.int w9), some (.int w10), some (.int w11), some (.int w12)] [] τ' := by
    intro w9 w10 w11 w12 b h1 h2 h3
    refine ⟨w9, w10, w11, w12, τ, ?_, ?_⟩
    · rw [h2, ← h1]; exact ⟨ho, e83, e84, hlt⟩
    · rw [h1, h2, h3, nI_add]
  have ye : ∀ (w9 w10 w11 w12 : Int32) (b : Option Nat), mdB (opP σ) (opK σ) (opG σ s) n E X = b → mdB (opP σ) (opK σ) (opG σ s) n E (X + 1) = some X → Run false (d + 1) 254 64 [some (.ref 85), some (.int a1), some (.int (nI s)), some (.int a3), some (.long (lN E)), none, some (.int (mA6 b)), some (.int (mA7 σ n b)), some (.int (nI X)), some (.int (nI (smB (opK σ) n X))), some (.int (nI (smB (opP σ) n X))), some (.int (bo1 (gbN (opG σ s) X n))), some (.int (nI n))] [] τ = Run false (d + 1) 254 41 [some (.ref 85), some (.int a1), some (.int (nI s)), some (.int a3), some (.long (lN E)), none, some (.int (nI 1)), some (.int (nI (smB (opK σ) n X))), some (.int (nI X + nI 1)), some (.int w9), some (.int w10), some (.int w11), some (.int w12)] [] (wFI (wFI τ 85 83 (nI X)) 85 84 (nI (smB (opP σ) n X))) → ∃ (w9 w10 w11 w12 : Int32) (τ' : PS), RpM σ τ' n (mdB (opP σ) (opK σ) (opG σ s) n E (X + 1)) ∧ Run false (d + 1) 254 64 [some (.ref 85), some (.int a1), some (.int (nI s)), some (.int a3), some (.long (lN E)), none, some (.int (mA6 (mdB (opP σ) (opK σ) (opG σ s) n E X))), some (.int (mA7 σ n (mdB (opP σ) (opK σ) (opG σ s) n E X))), some (.int (nI X)), some (.int (nI (smB (opK σ) n X))), some (.int (nI (smB (opP σ) n X))), some (.int (bo1 (gbN (opG σ s) X n))), some (.int (nI n))] [] τ = Run false (d + 1) 254 41 [some (.ref 85), some (.int a1), some (.int (nI s)), some (.int a3), some (.long (lN E)), none, some (.int (mA6 (mdB (opP σ) (opK σ) (opG σ s) n E (X + 1)))), some (.int (mA7 σ n (mdB (opP σ) (opK σ) (opG σ s) n E (X + 1)))), some (.int (nI (X + 1))), some (.int w9), some (.int w10), some (.int w11), some (.int w12)] [] τ' := by
    intro w9 w10 w11 w12 b h1 h2 h3
    refine ⟨w9, w10, w11, w12, wFI (wFI τ 85 83 (nI X)) 85 84 (nI (smB (opP σ) n X)), ?_, ?_⟩
    · rw [h2]; exact rm_up ho hX
    · rw [h1, h2, h3, nI_add]; rfl
  have hs : ∀ a6 a7, Run false (d + 1) 254 64 [some (.ref 85), some (.int a1), some (.int (nI s)), some (.int a3), some (.long (lN E)), none, some (.int a6), some (.int a7), some (.int (nI X)), some (.int (nI (smB (opK σ) n X))), some (.int (nI (smB (opP σ) n X))), some (.int (bo1 (gbN (opG σ s) X n))), some (.int (nI n))] [] τ = Run false (d + 1) 254 64 [some (.ref 85), some (.int a1), some (.int (nI s)), some (.int a3), some (.long (lN E)), none, some (.int a6), some (.int a7), some (.int (nI X)), some (.int (nI (smB (opK σ) n X))), some (.int (nI (smB (opP σ) n X))), some (.int (bo1 (gbN (opG σ s) X n))), some (.int (nI n))] [] τ := fun _ _ => rfl
  have en : obl (nI n ≤ nI n) = true := oleT (Nat.le_refl _) (by omega)
  have hge : obl (nI 0 ≤ lg_cmp ((nI (smB (opK σ) n X)).toInt64) (lN E)) = Nat.ble E (smB (opK σ) n X) := by rw [lgGe, nI_l (by omega), LLb hE (by omega)]
  by_cases hv : vlB (opK σ) (opG σ s) n E X
  case neg =>
    have emd : mdB (opP σ) (opK σ) (opG σ s) n E (X + 1) = mdB (opP σ) (opK σ) (opG σ s) n E X := by
      show (bif obl (vlB (opK σ) (opG σ s) n E X) then _ else _) = _
      rw [obl_f hv]; rfl
    refine no (nI (smB (opK σ) n X)) (nI (smB (opP σ) n X)) (bo1 (gbN (opG σ s) X n)) (nI n) _ rfl emd ?_
    rw [s254_64, e75, en, cond_true]
    cases hg : gbN (opG σ s) X n
    · show (bif obl (nI 0 = nI 0) then _ else _) = _
      rw [z00]; rfl
    · have hE2 : ¬ E ≤ smB (opK σ) n X := fun w => hv ⟨(gb_ok n).mp hg, w⟩
      show (bif obl (nI 1 = nI 0) then _ else _) = _
      rw [z10, cond_false, hge, Nlf (Nat.lt_of_not_le hE2)]; rfl
  case pos =>
    have hg : gbN (opG σ s) X n = true := (gb_ok n).mpr hv.1
    have hble := Nlt hv.2
    have b1 : obl (bo1 true = nI 0) = false := z10
    have emd : mdB (opP σ) (opK σ) (opG σ s) n E (X + 1) = (match mdB (opP σ) (opK σ) (opG σ s) n E X with | none => some X | some Y => bif obl (ltB (opP σ) (opK σ) n X Y) then some X else some Y) := by
      show (bif obl (vlB (opK σ) (opG σ s) n E X) then _ else _) = _
      rw [obl_t hv]; rfl
    cases hb : mdB (opP σ) (opK σ) (opG σ s) n E X with
    | none =>
      rw [hb] at emd
      have h9 := ye (nI (smB (opK σ) n X)) (nI (smB (opP σ) n X)) (bo1 (gbN (opG σ s) X n)) (nI 1) none hb emd (by
        rw [s254_64, e75, en, cond_true, hg, b1, cond_false, hge, hble, cond_true]
        show (bif obl (nI 0 = nI 0) then _ else _) = _
        rw [z00, cond_true, z10, cond_false])
      rw [hb] at h9
      exact h9
    | some Y =>
      rw [hb] at emd e83 e84 hlt
      have hY := hlt Y rfl
      have lKY := smK_le (X := Y) hI hn (Nat.le_refl n)
      have lPY := smP_le (X := Y) hI hn (Nat.le_refl n)
      have e84' : FI τ 85 84 = nI (smB (opP σ) n Y) := e84
      have e83' : FI τ 85 83 = nI Y := e83
      have emd' : mdB (opP σ) (opK σ) (opG σ s) n E (X + 1) = bif obl (ltB (opP σ) (opK σ) n X Y) then some X else some Y := emd
      have c0 : obl (mA6 (some Y) = nI 0) = false := z10
      have e7 : mA7 σ n (some Y) = nI (smB (opK σ) n Y) := rfl
      by_cases l1 : smB (opP σ) n X < smB (opP σ) n Y
      · rw [obl_t (show ltB (opP σ) (opK σ) n X Y from Or.inl l1)] at emd'
        have h9 := ye (nI (smB (opK σ) n X)) (nI (smB (opP σ) n X)) (bo1 (gbN (opG σ s) X n)) (nI 1) (some Y) hb emd' (by
          rw [s254_64, e75, en, cond_true, hg, b1, cond_false, hge, hble, cond_true, c0, cond_false, e84', oltT l1 (by omega), cond_true, z10, cond_false])
        rw [hb] at h9
        exact h9
      · by_cases l2 : smB (opP σ) n X = smB (opP σ) n Y
        case neg =>
          rw [obl_f (show ¬ ltB (opP σ) (opK σ) n X Y by unfold ltB; omega)] at emd'
          have h9 := no (nI (smB (opK σ) n X)) (nI (smB (opP σ) n X)) (bo1 (gbN (opG σ s) X n)) (nI 0) (some Y) hb emd' (by
            rw [s254_64, e75, en, cond_true, hg, b1, cond_false, hge, hble, cond_true, c0, cond_false, e84', oltF (Nat.le_of_not_lt l1) (by omega), cond_false, oeqF l2 (by omega) (by omega), cond_false, z00, cond_true])
          rw [hb] at h9
          exact h9
        case pos =>
          by_cases l3 : smB (opK σ) n X < smB (opK σ) n Y
          · rw [obl_t (show ltB (opP σ) (opK σ) n X Y from Or.inr ⟨l2, Or.inl l3⟩)] at emd'
            have h9 := ye (nI (smB (opK σ) n X)) (nI (smB (opP σ) n X)) (bo1 (gbN (opG σ s) X n)) (nI 1) (some Y) hb emd' (by
              rw [s254_64, e75, en, cond_true, hg, b1, cond_false, hge, hble, cond_true, c0, cond_false, e84', oltF (Nat.le_of_not_lt l1) (by omega), cond_false, oeqT l2, cond_true, e7, oltT l3 (by omega), cond_true, z10, cond_false])
            rw [hb] at h9
            exact h9
          · by_cases l4 : smB (opK σ) n X = smB (opK σ) n Y
            case neg =>
              rw [obl_f (show ¬ ltB (opP σ) (opK σ) n X Y by unfold ltB; omega)] at emd'
              have h9 := no (nI (smB (opK σ) n X)) (nI (smB (opP σ) n X)) (bo1 (gbN (opG σ s) X n)) (nI 0) (some Y) hb emd' (by
                rw [s254_64, e75, en, cond_true, hg, b1, cond_false, hge, hble, cond_true, c0, cond_false, e84', oltF (Nat.le_of_not_lt l1) (by omega), cond_false, oeqT l2, cond_true, e7, oltF (Nat.le_of_not_lt l3) (by omega), cond_false, oeqF l4 (by omega) (by omega), cond_false, z00, cond_true])
              rw [hb] at h9
              exact h9
            case pos =>
              have k5 := c255 (d := d) (σ := τ) hd hn hX hY
              by_cases l5 : rvN n Y < rvN n X
              · rw [obl_t (show ltB (opP σ) (opK σ) n X Y from Or.inr ⟨l2, Or.inr ⟨l4, l5⟩⟩)] at emd'
                rw [if_pos l5] at k5
                have h9 := ye (nI (smB (opK σ) n X)) (nI (smB (opP σ) n X)) (bo1 (gbN (opG σ s) X n)) (nI 1) (some Y) hb emd' (by
                  rw [s254_64, e75, en, cond_true, hg, b1, cond_false, hge, hble, cond_true, c0, cond_false, e84', oltF (Nat.le_of_not_lt l1) (by omega), cond_false, oeqT l2, cond_true, e7, oltF (Nat.le_of_not_lt l3) (by omega), cond_false, oeqT l4, cond_true, e83', k5, aft_v, s254_212, z10, cond_false, cond_false])
                rw [hb] at h9
                exact h9
              · rw [obl_f (show ¬ ltB (opP σ) (opK σ) n X Y by unfold ltB; omega)] at emd'
                rw [if_neg l5] at k5
                have h9 := no (nI (smB (opK σ) n X)) (nI (smB (opP σ) n X)) (bo1 (gbN (opG σ s) X n)) (nI 0) (some Y) hb emd' (by
                  rw [s254_64, e75, en, cond_true, hg, b1, cond_false, hge, hble, cond_true, c0, cond_false, e84', oltF (Nat.le_of_not_lt l1) (by omega), cond_false, oeqT l2, cond_true, e7, oltF (Nat.le_of_not_lt l3) (by omega), cond_false, oeqT l4, cond_true, e83', k5, aft_v, s254_212, z00, cond_true, cond_true])
                rw [hb] at h9
                exact h9
theorem c254_lp {a1 a3 : Int32} (hd : 1 ≤ d) (hI : IFm σ n) (hq : FI σ 85 75 = nI n) (hn : n ≤ 12) (hE : E < 2 ^ 63) (hE0 : 0 < E) {τ : PS} (ho : Off σ τ) (e83 : FI τ 85 83 = nI 0) (e84 : FI τ 85 84 = nI 0) : ∃ τ', RpM σ τ' n (mdB (opP σ) (opK σ) (opG σ s) n E (2 ^ n)) ∧ Run false (d + 1) 254 41 [some (.ref 85), some (.int a1), some (.int (nI s)), some (.int a3), some (.long (lN E)), none, some (.int (nI 0)), some (.int (nI 0)), some (.int (nI 1)), none, none, none, none] [] τ = some (.inl (some (.int (mA6 (mdB (opP σ) (opK σ) (opG σ s) n E (2 ^ n)))), τ')) := by
  have hp12 : (2 : Nat) ^ n ≤ 2 ^ 12 := Nat.pow_le_pow_right (by decide) hn
  have key : ∀ m X u9 u10 u11 u12 τ, X + m = 2 ^ n → RpM σ τ n (mdB (opP σ) (opK σ) (opG σ s) n E X) → ∃ τ', RpM σ τ' n (mdB (opP σ) (opK σ) (opG σ s) n E (2 ^ n)) ∧ Run false (d + 1) 254 41 [some (.ref 85), some (.int a1), some (.int (nI s)), some (.int a3), some (.long (lN E)), none, some (.int (mA6 (mdB (opP σ) (opK σ) (opG σ s) n E X))), some (.int (mA7 σ n (mdB (opP σ) (opK σ) (opG σ s) n E X))), some (.int (nI X)), u9, u10, u11, u12] [] τ = some (.inl (some (.int (mA6 (mdB (opP σ) (opK σ) (opG σ s) n E (2 ^ n)))), τ')) := by
    intro m
    induction m with
    | zero =>
      intro X u9 u10 u11 u12 τ h1 h2
      have : X = 2 ^ n := by omega
      subst this
      refine ⟨τ, h2, ?_⟩
      have e75 : FI τ 85 75 = nI n := (offF h2.1 85 75 rfl).trans hq
      have h01 : is01 (mA6 (mdB (opP σ) (opK σ) (opG σ s) n E (2 ^ n))) = true := by
        cases mdB (opP σ) (opK σ) (opG σ s) n E (2 ^ n)
        · exact is01_0
        · exact is01_1
      rw [s254_41, e75, shl1 hn, oleT (Nat.le_refl _) (by omega), cond_true, h01, cond_true]
    | succ m ih =>
      intro X u9 u10 u11 u12 τ h1 h2
      obtain ⟨w9, w10, w11, w12, τ1, q1, q2⟩ := c254_s (a1 := a1) (a3 := a3) (u9 := u9) (u10 := u10) (u11 := u11) (u12 := u12) hd hI hq hn hE (show X < 2 ^ n by omega) h2
      obtain ⟨τ', q3, q4⟩ := ih (X + 1) (some (.int w9)) (some (.int w10)) (some (.int w11)) (some (.int w12)) τ1 (by omega) q1
      exact ⟨τ', q3, q2.trans q4⟩
  have e1 : mdB (opP σ) (opK σ) (opG σ s) n E 1 = none := by
    show (bif obl (vlB (opK σ) (opG σ s) n E 0) then _ else none) = none
    rw [obl_f (fun w => by
      have := w.2
      rw [smB_0] at this
      omega)]
    rfl
  have hp : 1 ≤ 2 ^ n := Nat.pow_pos (by decide)
  obtain ⟨τ', q1, q2⟩ := key (2 ^ n - 1) 1 none none none none τ (by omega) (by
    rw [e1]
    exact ⟨ho, e83, e84, fun Y q => by cases q⟩)
  refine ⟨τ', q1, ?_⟩
  rw [e1] at q2
  exact q2
end BM
