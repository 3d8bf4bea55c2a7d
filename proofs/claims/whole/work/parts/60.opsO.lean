/-! printed by wip/whole/ops.py: the ops that write no more than they say -/
set_option maxHeartbeats 8000000 in
theorem op_buying {σ : PS} (hI : Inv σ) (a1 a2 a3 a4 : Int32) : Op (fun d σ => Run false d 33 0 [some (.ref 0), some (.int a1), some (.int a2), some (.int a3), some (.int a4), none] [] σ) (fun d σ => Run false d 256 0 [some (.ref 85), some (.int a1), some (.int a2), some (.int a3), some (.int a4)] [] σ) σ isI (fun E => if E = 3 then 1 else if E = 1 then 2 else 0) := by
  have hI0 := hI
  obtain ⟨⟨⟨nW, hW, eW, eWc⟩, ⟨nM, hM, eM, eMc⟩, eTr, eIs⟩, ⟨⟨nB, hB, eB, eBc, hBy⟩, eFa, eC10⟩, ⟨⟨nP, hP, eP, ePc, hTr⟩, hPk, hSo, hGr, hCo⟩, ⟨nD, hD, eD, eDc, hDe⟩, ⟨⟨nS, hS, eS, eSc⟩, ⟨nJ, hJ, eJ, eJc, hJo⟩, hPa⟩, ⟨nL, nQ, hL, hQ, eL, eLc, eQ, eQc, hLo, hNo, eFg⟩, ⟨nO, hO, eO, eOc, hOf, hOz⟩, ⟨nA, hA, eA, eAc, hSa⟩, ⟨hBi, hOr⟩, LS, hIL⟩ := hI
  have H51_t := fun (d : Nat) (σ : PS) (a : Int32) => @c51_t d σ a nS
  have H51_f := fun (d : Nat) (σ : PS) (a : Int32) => @c51_f d σ a nS
  have H52_t := fun (d : Nat) (σ : PS) (a : Int32) => @c52_t d σ a nS
  have H52_f := fun (d : Nat) (σ : PS) (a : Int32) => @c52_f d σ a nS
  have H241_t := fun (d : Nat) (σ : PS) (a c : Int32) => @c241_t d σ a nS c
  have H241_f := fun (d : Nat) (σ : PS) (a c : Int32) => @c241_f d σ a nS c
  have HXnS := fun (d : Nat) (σ : PS) (a : Int32) => @c166_X d σ a nS
  have HYnS := fun (d : Nat) (σ : PS) (a : Int32) => @c166_Y d σ a nS
  have HNnS := fun (d : Nat) (σ : PS) (a : Int32) => @c166_N d σ a nS
  have HOnS := fun (d : Nat) (σ : PS) (a : Int32) => @c166_M d σ a nS
  by_cases h1 : IX nS a1
  case neg =>
    refine opE_of hI0 3 1 (.int (nI 0)) ⟨_, rfl⟩ (by decide) rfl (by decide) (fun d => ?_) (fun d => ?_)
    · simp (disch := first | omega | assumption | exact FI_q | exact nI_10 | exact nI_20 | exact nI_30 | (simp (disch := omega) only [AI_q, AI_n, AL_q, AL_n, FI_q, FI_n, AI_ff, AI_fl, AI_la, AI_tt, FI_aa, FI_la, FI_fl, FI_tt, AL_ff, AL_aa, AL_fw, AL_tt, eW, eWc, eM, eMc, eB, eBc, eP, ePc, eD, eDc, eS, eSc, eJ, eJc, eL, eLc, eQ, eQc, eO, eOc, eA, eAc]; done) | fail) only [s33_0, s33_5, s33_9, s33_13, s33_20, s33_27, s33_50, s256_0, s256_11, s256_19, s256_26, s256_36, s256_48, s256_60, c46_t, c46_f, c42_t, c42_f, c43_t, c43_f, c44_t, c44_f, c45_t, c45_f, c166_T, c166_F, c165_t, c165_f, c169_t, c169_f, c170_t, c170_f, c209_t, c209_f, c244_t, c244_f, H51_t, H51_f, H52_t, H52_f, H241_t, H241_f, HXnS, HYnS, HNnS, HOnS, aft_v, aft_n, aft_x2, z00, z10, oTr, oFa, cond_true, cond_false, nI_add, nI_mul, nI_s1, nI_clamp, inbT, oltT, oltF, oleT, oleF, oeqT, oeqF, is01_0, is01_1, AI_q, AI_n, AL_q, AL_n, FI_q, FI_n, AI_ff, AI_fl, AI_la, AI_tt, FI_aa, FI_la, FI_fl, FI_tt, AL_ff, AL_aa, AL_fw, AL_tt, eW, eWc, eM, eMc, eB, eBc, eP, ePc, eD, eDc, eS, eSc, eJ, eJc, eL, eLc, eQ, eQc, eO, eOc, eA, eAc]
    · simp (disch := first | omega | assumption | exact FI_q | exact nI_10 | exact nI_20 | exact nI_30 | (simp (disch := omega) only [AI_q, AI_n, AL_q, AL_n, FI_q, FI_n, AI_ff, AI_fl, AI_la, AI_tt, FI_aa, FI_la, FI_fl, FI_tt, AL_ff, AL_aa, AL_fw, AL_tt, eW, eWc, eM, eMc, eB, eBc, eP, ePc, eD, eDc, eS, eSc, eJ, eJc, eL, eLc, eQ, eQc, eO, eOc, eA, eAc]; done) | fail) only [s33_0, s33_5, s33_9, s33_13, s33_20, s33_27, s33_50, s256_0, s256_11, s256_19, s256_26, s256_36, s256_48, s256_60, c46_t, c46_f, c42_t, c42_f, c43_t, c43_f, c44_t, c44_f, c45_t, c45_f, c166_T, c166_F, c165_t, c165_f, c169_t, c169_f, c170_t, c170_f, c209_t, c209_f, c244_t, c244_f, H51_t, H51_f, H52_t, H52_f, H241_t, H241_f, HXnS, HYnS, HNnS, HOnS, aft_v, aft_n, aft_x2, z00, z10, oTr, oFa, cond_true, cond_false, nI_add, nI_mul, nI_s1, nI_clamp, inbT, oltT, oltF, oleT, oleF, oeqT, oeqF, is01_0, is01_1, AI_q, AI_n, AL_q, AL_n, FI_q, FI_n, AI_ff, AI_fl, AI_la, AI_tt, FI_aa, FI_la, FI_fl, FI_tt, AL_ff, AL_aa, AL_fw, AL_tt, eW, eWc, eM, eMc, eB, eBc, eP, ePc, eD, eDc, eS, eSc, eJ, eJc, eL, eLc, eQ, eQc, eO, eOc, eA, eAc]
  by_cases h2 : IR 0 4 a2
  case neg =>
    refine opE_of hI0 1 2 (.int (nI 0)) ⟨_, rfl⟩ (by decide) rfl (by decide) (fun d => ?_) (fun d => ?_)
    · simp (disch := first | omega | assumption | exact FI_q | exact nI_10 | exact nI_20 | exact nI_30 | (simp (disch := omega) only [AI_q, AI_n, AL_q, AL_n, FI_q, FI_n, AI_ff, AI_fl, AI_la, AI_tt, FI_aa, FI_la, FI_fl, FI_tt, AL_ff, AL_aa, AL_fw, AL_tt, eW, eWc, eM, eMc, eB, eBc, eP, ePc, eD, eDc, eS, eSc, eJ, eJc, eL, eLc, eQ, eQc, eO, eOc, eA, eAc]; done) | fail) only [s33_0, s33_5, s33_9, s33_13, s33_20, s33_27, s33_50, s256_0, s256_11, s256_19, s256_26, s256_36, s256_48, s256_60, c46_t, c46_f, c42_t, c42_f, c43_t, c43_f, c44_t, c44_f, c45_t, c45_f, c166_T, c166_F, c165_t, c165_f, c169_t, c169_f, c170_t, c170_f, c209_t, c209_f, c244_t, c244_f, H51_t, H51_f, H52_t, H52_f, H241_t, H241_f, HXnS, HYnS, HNnS, HOnS, aft_v, aft_n, aft_x2, z00, z10, oTr, oFa, cond_true, cond_false, nI_add, nI_mul, nI_s1, nI_clamp, inbT, oltT, oltF, oleT, oleF, oeqT, oeqF, is01_0, is01_1, AI_q, AI_n, AL_q, AL_n, FI_q, FI_n, AI_ff, AI_fl, AI_la, AI_tt, FI_aa, FI_la, FI_fl, FI_tt, AL_ff, AL_aa, AL_fw, AL_tt, eW, eWc, eM, eMc, eB, eBc, eP, ePc, eD, eDc, eS, eSc, eJ, eJc, eL, eLc, eQ, eQc, eO, eOc, eA, eAc]
    · simp (disch := first | omega | assumption | exact FI_q | exact nI_10 | exact nI_20 | exact nI_30 | (simp (disch := omega) only [AI_q, AI_n, AL_q, AL_n, FI_q, FI_n, AI_ff, AI_fl, AI_la, AI_tt, FI_aa, FI_la, FI_fl, FI_tt, AL_ff, AL_aa, AL_fw, AL_tt, eW, eWc, eM, eMc, eB, eBc, eP, ePc, eD, eDc, eS, eSc, eJ, eJc, eL, eLc, eQ, eQc, eO, eOc, eA, eAc]; done) | fail) only [s33_0, s33_5, s33_9, s33_13, s33_20, s33_27, s33_50, s256_0, s256_11, s256_19, s256_26, s256_36, s256_48, s256_60, c46_t, c46_f, c42_t, c42_f, c43_t, c43_f, c44_t, c44_f, c45_t, c45_f, c166_T, c166_F, c165_t, c165_f, c169_t, c169_f, c170_t, c170_f, c209_t, c209_f, c244_t, c244_f, H51_t, H51_f, H52_t, H52_f, H241_t, H241_f, HXnS, HYnS, HNnS, HOnS, aft_v, aft_n, aft_x2, z00, z10, oTr, oFa, cond_true, cond_false, nI_add, nI_mul, nI_s1, nI_clamp, inbT, oltT, oltF, oleT, oleF, oeqT, oeqF, is01_0, is01_1, AI_q, AI_n, AL_q, AL_n, FI_q, FI_n, AI_ff, AI_fl, AI_la, AI_tt, FI_aa, FI_la, FI_fl, FI_tt, AL_ff, AL_aa, AL_fw, AL_tt, eW, eWc, eM, eMc, eB, eBc, eP, ePc, eD, eDc, eS, eSc, eJ, eJc, eL, eLc, eQ, eQc, eO, eOc, eA, eAc]
  by_cases h3 : IR 0 40 a3
  case neg =>
    refine opE_of hI0 1 2 (.int (nI 0)) ⟨_, rfl⟩ (by decide) rfl (by decide) (fun d => ?_) (fun d => ?_)
    · simp (disch := first | omega | assumption | exact FI_q | exact nI_10 | exact nI_20 | exact nI_30 | (simp (disch := omega) only [AI_q, AI_n, AL_q, AL_n, FI_q, FI_n, AI_ff, AI_fl, AI_la, AI_tt, FI_aa, FI_la, FI_fl, FI_tt, AL_ff, AL_aa, AL_fw, AL_tt, eW, eWc, eM, eMc, eB, eBc, eP, ePc, eD, eDc, eS, eSc, eJ, eJc, eL, eLc, eQ, eQc, eO, eOc, eA, eAc]; done) | fail) only [s33_0, s33_5, s33_9, s33_13, s33_20, s33_27, s33_50, s256_0, s256_11, s256_19, s256_26, s256_36, s256_48, s256_60, c46_t, c46_f, c42_t, c42_f, c43_t, c43_f, c44_t, c44_f, c45_t, c45_f, c166_T, c166_F, c165_t, c165_f, c169_t, c169_f, c170_t, c170_f, c209_t, c209_f, c244_t, c244_f, H51_t, H51_f, H52_t, H52_f, H241_t, H241_f, HXnS, HYnS, HNnS, HOnS, aft_v, aft_n, aft_x2, z00, z10, oTr, oFa, cond_true, cond_false, nI_add, nI_mul, nI_s1, nI_clamp, inbT, oltT, oltF, oleT, oleF, oeqT, oeqF, is01_0, is01_1, AI_q, AI_n, AL_q, AL_n, FI_q, FI_n, AI_ff, AI_fl, AI_la, AI_tt, FI_aa, FI_la, FI_fl, FI_tt, AL_ff, AL_aa, AL_fw, AL_tt, eW, eWc, eM, eMc, eB, eBc, eP, ePc, eD, eDc, eS, eSc, eJ, eJc, eL, eLc, eQ, eQc, eO, eOc, eA, eAc]
    · simp (disch := first | omega | assumption | exact FI_q | exact nI_10 | exact nI_20 | exact nI_30 | (simp (disch := omega) only [AI_q, AI_n, AL_q, AL_n, FI_q, FI_n, AI_ff, AI_fl, AI_la, AI_tt, FI_aa, FI_la, FI_fl, FI_tt, AL_ff, AL_aa, AL_fw, AL_tt, eW, eWc, eM, eMc, eB, eBc, eP, ePc, eD, eDc, eS, eSc, eJ, eJc, eL, eLc, eQ, eQc, eO, eOc, eA, eAc]; done) | fail) only [s33_0, s33_5, s33_9, s33_13, s33_20, s33_27, s33_50, s256_0, s256_11, s256_19, s256_26, s256_36, s256_48, s256_60, c46_t, c46_f, c42_t, c42_f, c43_t, c43_f, c44_t, c44_f, c45_t, c45_f, c166_T, c166_F, c165_t, c165_f, c169_t, c169_f, c170_t, c170_f, c209_t, c209_f, c244_t, c244_f, H51_t, H51_f, H52_t, H52_f, H241_t, H241_f, HXnS, HYnS, HNnS, HOnS, aft_v, aft_n, aft_x2, z00, z10, oTr, oFa, cond_true, cond_false, nI_add, nI_mul, nI_s1, nI_clamp, inbT, oltT, oltF, oleT, oleF, oeqT, oeqF, is01_0, is01_1, AI_q, AI_n, AL_q, AL_n, FI_q, FI_n, AI_ff, AI_fl, AI_la, AI_tt, FI_aa, FI_la, FI_fl, FI_tt, AL_ff, AL_aa, AL_fw, AL_tt, eW, eWc, eM, eMc, eB, eBc, eP, ePc, eD, eDc, eS, eSc, eJ, eJc, eL, eLc, eQ, eQc, eO, eOc, eA, eAc]
  by_cases h4 : IR 0 1 a4
  case neg =>
    refine opE_of hI0 1 2 (.int (nI 0)) ⟨_, rfl⟩ (by decide) rfl (by decide) (fun d => ?_) (fun d => ?_)
    · simp (disch := first | omega | assumption | exact FI_q | exact nI_10 | exact nI_20 | exact nI_30 | (simp (disch := omega) only [AI_q, AI_n, AL_q, AL_n, FI_q, FI_n, AI_ff, AI_fl, AI_la, AI_tt, FI_aa, FI_la, FI_fl, FI_tt, AL_ff, AL_aa, AL_fw, AL_tt, eW, eWc, eM, eMc, eB, eBc, eP, ePc, eD, eDc, eS, eSc, eJ, eJc, eL, eLc, eQ, eQc, eO, eOc, eA, eAc]; done) | fail) only [s33_0, s33_5, s33_9, s33_13, s33_20, s33_27, s33_50, s256_0, s256_11, s256_19, s256_26, s256_36, s256_48, s256_60, c46_t, c46_f, c42_t, c42_f, c43_t, c43_f, c44_t, c44_f, c45_t, c45_f, c166_T, c166_F, c165_t, c165_f, c169_t, c169_f, c170_t, c170_f, c209_t, c209_f, c244_t, c244_f, H51_t, H51_f, H52_t, H52_f, H241_t, H241_f, HXnS, HYnS, HNnS, HOnS, aft_v, aft_n, aft_x2, z00, z10, oTr, oFa, cond_true, cond_false, nI_add, nI_mul, nI_s1, nI_clamp, inbT, oltT, oltF, oleT, oleF, oeqT, oeqF, is01_0, is01_1, AI_q, AI_n, AL_q, AL_n, FI_q, FI_n, AI_ff, AI_fl, AI_la, AI_tt, FI_aa, FI_la, FI_fl, FI_tt, AL_ff, AL_aa, AL_fw, AL_tt, eW, eWc, eM, eMc, eB, eBc, eP, ePc, eD, eDc, eS, eSc, eJ, eJc, eL, eLc, eQ, eQc, eO, eOc, eA, eAc]
    · simp (disch := first | omega | assumption | exact FI_q | exact nI_10 | exact nI_20 | exact nI_30 | (simp (disch := omega) only [AI_q, AI_n, AL_q, AL_n, FI_q, FI_n, AI_ff, AI_fl, AI_la, AI_tt, FI_aa, FI_la, FI_fl, FI_tt, AL_ff, AL_aa, AL_fw, AL_tt, eW, eWc, eM, eMc, eB, eBc, eP, ePc, eD, eDc, eS, eSc, eJ, eJc, eL, eLc, eQ, eQc, eO, eOc, eA, eAc]; done) | fail) only [s33_0, s33_5, s33_9, s33_13, s33_20, s33_27, s33_50, s256_0, s256_11, s256_19, s256_26, s256_36, s256_48, s256_60, c46_t, c46_f, c42_t, c42_f, c43_t, c43_f, c44_t, c44_f, c45_t, c45_f, c166_T, c166_F, c165_t, c165_f, c169_t, c169_f, c170_t, c170_f, c209_t, c209_f, c244_t, c244_f, H51_t, H51_f, H52_t, H52_f, H241_t, H241_f, HXnS, HYnS, HNnS, HOnS, aft_v, aft_n, aft_x2, z00, z10, oTr, oFa, cond_true, cond_false, nI_add, nI_mul, nI_s1, nI_clamp, inbT, oltT, oltF, oleT, oleF, oeqT, oeqF, is01_0, is01_1, AI_q, AI_n, AL_q, AL_n, FI_q, FI_n, AI_ff, AI_fl, AI_la, AI_tt, FI_aa, FI_la, FI_fl, FI_tt, AL_ff, AL_aa, AL_fw, AL_tt, eW, eWc, eM, eMc, eB, eBc, eP, ePc, eD, eDc, eS, eSc, eJ, eJc, eL, eLc, eQ, eQc, eO, eOc, eA, eAc]
  obtain ⟨c, hc, rfl⟩ := id h1
  obtain ⟨s, -, hs, rfl⟩ := id h2
  obtain ⟨y, -, hy, rfl⟩ := id h3
  obtain ⟨w, -, hw, rfl⟩ := id h4
  have hS4 := hS
  have hC := IL_C hIL
  have hM' := IL_M hIL eIs
  have hPP : IP σ := hI0.2.2.1
  have hD' : ID σ := hI0.2.2.2.1
  have hSS : IS σ := hI0.2.2.2.2.1
  have hMM : IM σ := hI0.2.2.2.2.2.2.2.1
  have hOO : IO_ σ := hI0.2.2.2.2.2.1
  have hFF : IF_ σ := hI0.2.2.2.2.2.2.1
  have hdb : ∀ m s, dcN σ y (nI nW) nD m s ≤ 10000000 := fun m s => (dcN_e hD' eD hD).2
  obtain ⟨eo84, o, -, ho2, eo⟩ := hOr (s * 41 + y) (by omega)
  have e41 : s * 41 + y = 41 * s + y := by omega
  rw [eo] at eo84
  have hFm := ifm_of hFF eO hO
  obtain ⟨E, hE, hsh⟩ := shV_N (b := (bdV (fun m => (inR σ m y nJ).2) (fun m => b1 (sumN (dcN σ y (nI nW) nD m) 5 < numV (clL LS 5 0 y) 0)) (dcN σ y (nI nW) nD) LS y nM nS o c s)) (e := (lN (ntV σ (nI c) (nI s) (nI y) (nI nW) nQ + ofV σ (nI c) (nI s) (nI y) (nI nW) nO)))
  have cl : ∀ d, ∃ τ', Off σ τ' ∧ Run false (d + 39) 68 0 [some (.ref 0), some (.int (nI c)), some (.int (nI s)), some (.int (nI y)), none, none] [] σ = some (.inl (some (.int (cSet (setR σ nO s E))), τ')) := fun d => by
      obtain ⟨τ, o1, v1, r1⟩ := c55 (d := d + 38) (k := (nI nW)) (by omega) hy hC hD' eDc hD hSS eJc hJ eMc hM
      have hCW : CW τ LS nM nS (dcN σ y (nI nW) nD) (fun m => sumN (dcN σ y (nI nW) nD m) 5 < numV (clL LS 5 0 y) 0) (fun m => (inR σ m y nJ).2) := ⟨v1, LC_off o1 hC, (offF o1 0 1 rfl).trans eMc, (offF o1 31 0 rfl).trans eSc, hM, hS4, hdb⟩
      exact c68 (d := d + 38) (by omega) hy off_r ⟨τ, o1, hCW, r1⟩ (by omega) hc eo84 ho2 hOO hFF eQ eQc hQ eO eOc hO eWc hE hsh
  have ml : ∀ τ e, OffG buF buA σ τ → ∃ τ', Off τ τ' ∧ FI τ' 85 83 = mSet (setR σ nO s E) ∧ FI τ' 85 84 = mPri σ nO (setR σ nO s E) ∧ Run false (e + 39) 254 0 [some (.ref 85), some (.int (nI c)), some (.int (nI s)), some (.int (nI y)), none, none, none, none, none, none, none, none, none] [] τ = some (.inl (some (.int (mA6 (setR σ nO s E))), τ')) := fun τ e h =>
    bu_M (by omega) hI0 hIL h hy (by omega) hc eW eJ hJ eM hM eS hS4 eD hD eTr eIs (by rw [← e41]; exact eo) ho2 eQ hQ eO hO hE hsh
  cases hr : (setR σ nO s E) with
  | none =>
    refine opQ_of hI0 (.int (-1 : Int32)) ⟨_, rfl⟩ (fun d => ?_) (fun σ1 z e ho => ?_)
    · obtain ⟨τ', o1, k1⟩ := cl d
      rw [hr] at k1
      have k2 : Run false (d + 39) 68 0 [some (.ref 0), some (.int (nI c)), some (.int (nI s)), some (.int (nI y)), none, none] [] σ = some (.inl (some (.int (-1 : Int32)), τ')) := k1
      refine ⟨τ', o1, ?_⟩
      simp (disch := first | omega | assumption | exact FI_q | exact nI_10 | exact nI_20 | exact nI_30 | (simp (disch := omega) only [AI_q, AI_n, AL_q, AL_n, FI_q, FI_n, AI_ff, AI_fl, AI_la, AI_tt, FI_aa, FI_la, FI_fl, FI_tt, AL_ff, AL_aa, AL_fw, AL_tt, eW, eWc, eM, eMc, eB, eBc, eP, ePc, eD, eDc, eS, eSc, eJ, eJc, eL, eLc, eQ, eQc, eO, eOc, eA, eAc]; done) | fail) only [s33_0, s33_5, s33_9, s33_13, s33_20, s33_27, s33_50, s256_0, s256_11, s256_19, s256_26, s256_36, s256_48, s256_60, c46_t, c46_f, c42_t, c42_f, c43_t, c43_f, c44_t, c44_f, c45_t, c45_f, c166_T, c166_F, c165_t, c165_f, c169_t, c169_f, c170_t, c170_f, c209_t, c209_f, c244_t, c244_f, H51_t, H51_f, H52_t, H52_f, H241_t, H241_f, HXnS, HYnS, HNnS, HOnS, aft_v, aft_n, aft_x2, z00, z10, oTr, oFa, cond_true, cond_false, nI_add, nI_mul, nI_s1, nI_clamp, inbT, oltT, oltF, oleT, oleF, oeqT, oeqF, is01_0, is01_1, AI_q, AI_n, AL_q, AL_n, FI_q, FI_n, AI_ff, AI_fl, AI_la, AI_tt, FI_aa, FI_la, FI_fl, FI_tt, AL_ff, AL_aa, AL_fw, AL_tt, eW, eWc, eM, eMc, eB, eBc, eP, ePc, eD, eDc, eS, eSc, eJ, eJc, eL, eLc, eQ, eQc, eO, eOc, eA, eAc, k2, Om1]
    · obtain ⟨τ', o1, e83, e84, k1⟩ := ml (wFI (wAL σ1 145 0 z) 85 0 (nI 0)) e (offG_fi rfl (offG_al rfl (bu_off ho)))
      rw [hr] at k1
      have k2 : Run false (e + 39) 254 0 [some (.ref 85), some (.int (nI c)), some (.int (nI s)), some (.int (nI y)), none, none, none, none, none, none, none, none, none] [] (wFI (wAL σ1 145 0 z) 85 0 (nI 0)) = some (.inl (some (.int (nI 0)), τ')) := k1
      have eW1 := (offF ho 85 1 rfl).trans eW
      have eM1 := (offF ho 85 29 rfl).trans eM
      have eB1 := (offF ho 85 2 rfl).trans eB
      have eP1 := (offF ho 85 30 rfl).trans eP
      have eD1 := (offF ho 85 39 rfl).trans eD
      have eS1 := (offF ho 85 52 rfl).trans eS
      have eJ1 := (offF ho 85 53 rfl).trans eJ
      have eL1 := (offF ho 85 62 rfl).trans eL
      have eQ1 := (offF ho 85 63 rfl).trans eQ
      have eO1 := (offF ho 85 75 rfl).trans eO
      have eA1 := (offF ho 85 85 rfl).trans eA
      refine ⟨τ', o1, ?_⟩
      simp (disch := first | omega | assumption | exact FI_q | exact nI_10 | exact nI_20 | exact nI_30 | (simp (disch := omega) only [AI_q, AI_n, AL_q, AL_n, FI_q, FI_n, AI_ff, AI_fl, AI_la, AI_tt, FI_aa, FI_la, FI_fl, FI_tt, AL_ff, AL_aa, AL_fw, AL_tt, eW1, eM1, eB1, eP1, eD1, eS1, eJ1, eL1, eQ1, eO1, eA1]; done) | fail) only [s33_0, s33_5, s33_9, s33_13, s33_20, s33_27, s33_50, s256_0, s256_11, s256_19, s256_26, s256_36, s256_48, s256_60, c46_t, c46_f, c42_t, c42_f, c43_t, c43_f, c44_t, c44_f, c45_t, c45_f, c166_T, c166_F, c165_t, c165_f, c169_t, c169_f, c170_t, c170_f, c209_t, c209_f, c244_t, c244_f, H51_t, H51_f, H52_t, H52_f, H241_t, H241_f, HXnS, HYnS, HNnS, HOnS, aft_v, aft_n, aft_x2, z00, z10, oTr, oFa, cond_true, cond_false, nI_add, nI_mul, nI_s1, nI_clamp, inbT, oltT, oltF, oleT, oleF, oeqT, oeqF, is01_0, is01_1, AI_q, AI_n, AL_q, AL_n, FI_q, FI_n, AI_ff, AI_fl, AI_la, AI_tt, FI_aa, FI_la, FI_fl, FI_tt, AL_ff, AL_aa, AL_fw, AL_tt, eW, eWc, eM, eMc, eB, eBc, eP, ePc, eD, eDc, eS, eSc, eJ, eJc, eL, eLc, eQ, eQc, eO, eOc, eA, eAc, eW1, eM1, eB1, eP1, eD1, eS1, eJ1, eL1, eQ1, eO1, eA1, k2]
  | some Y =>
    have hY := setR_lt hFm hr
    have lP := smP_le (X := Y) hFm hO (Nat.le_refl nO)
    have hp12 : (2 : Nat) ^ nO ≤ 2 ^ 12 := Nat.pow_le_pow_right (by decide) hO
    match w, hw with
    | 0, _ =>
      refine opQ_of hI0 (.int (nI (smB (opP σ) nO Y))) ⟨_, rfl⟩ (fun d => ?_) (fun σ1 z e ho => ?_)
      · obtain ⟨τ', o1, k1⟩ := cl d
        rw [hr] at k1
        have k2 : Run false (d + 39) 68 0 [some (.ref 0), some (.int (nI c)), some (.int (nI s)), some (.int (nI y)), none, none] [] σ = some (.inl (some (.int (nI Y)), τ')) := k1
        have k3 := c116 (d := d + 39) (by omega) hFF eO eOc hO hY o1
        refine ⟨τ', o1, ?_⟩
        simp (disch := first | omega | assumption | exact FI_q | exact nI_10 | exact nI_20 | exact nI_30 | (simp (disch := omega) only [AI_q, AI_n, AL_q, AL_n, FI_q, FI_n, AI_ff, AI_fl, AI_la, AI_tt, FI_aa, FI_la, FI_fl, FI_tt, AL_ff, AL_aa, AL_fw, AL_tt, eW, eWc, eM, eMc, eB, eBc, eP, ePc, eD, eDc, eS, eSc, eJ, eJc, eL, eLc, eQ, eQc, eO, eOc, eA, eAc]; done) | fail) only [s33_0, s33_5, s33_9, s33_13, s33_20, s33_27, s33_50, s256_0, s256_11, s256_19, s256_26, s256_36, s256_48, s256_60, c46_t, c46_f, c42_t, c42_f, c43_t, c43_f, c44_t, c44_f, c45_t, c45_f, c166_T, c166_F, c165_t, c165_f, c169_t, c169_f, c170_t, c170_f, c209_t, c209_f, c244_t, c244_f, H51_t, H51_f, H52_t, H52_f, H241_t, H241_f, HXnS, HYnS, HNnS, HOnS, aft_v, aft_n, aft_x2, z00, z10, oTr, oFa, cond_true, cond_false, nI_add, nI_mul, nI_s1, nI_clamp, inbT, oltT, oltF, oleT, oleF, oeqT, oeqF, is01_0, is01_1, AI_q, AI_n, AL_q, AL_n, FI_q, FI_n, AI_ff, AI_fl, AI_la, AI_tt, FI_aa, FI_la, FI_fl, FI_tt, AL_ff, AL_aa, AL_fw, AL_tt, eW, eWc, eM, eMc, eB, eBc, eP, ePc, eD, eDc, eS, eSc, eJ, eJc, eL, eLc, eQ, eQc, eO, eOc, eA, eAc, k2, k3]
      · obtain ⟨τ', o1, e83, e84, k1⟩ := ml (wFI (wAL σ1 145 0 z) 85 0 (nI 0)) e (offG_fi rfl (offG_al rfl (bu_off ho)))
        rw [hr] at k1 e83 e84
        have e83' : FI τ' 85 83 = nI Y := e83
        have e84' : FI τ' 85 84 = nI (smB (opP σ) nO Y) := e84
        have k2 : Run false (e + 39) 254 0 [some (.ref 85), some (.int (nI c)), some (.int (nI s)), some (.int (nI y)), none, none, none, none, none, none, none, none, none] [] (wFI (wAL σ1 145 0 z) 85 0 (nI 0)) = some (.inl (some (.int (nI 1)), τ')) := k1
        have eW1 := (offF ho 85 1 rfl).trans eW
        have eM1 := (offF ho 85 29 rfl).trans eM
        have eB1 := (offF ho 85 2 rfl).trans eB
        have eP1 := (offF ho 85 30 rfl).trans eP
        have eD1 := (offF ho 85 39 rfl).trans eD
        have eS1 := (offF ho 85 52 rfl).trans eS
        have eJ1 := (offF ho 85 53 rfl).trans eJ
        have eL1 := (offF ho 85 62 rfl).trans eL
        have eQ1 := (offF ho 85 63 rfl).trans eQ
        have eO1 := (offF ho 85 75 rfl).trans eO
        have eA1 := (offF ho 85 85 rfl).trans eA
        refine ⟨τ', o1, ?_⟩
        simp (disch := first | omega | assumption | exact FI_q | exact nI_10 | exact nI_20 | exact nI_30 | (simp (disch := omega) only [AI_q, AI_n, AL_q, AL_n, FI_q, FI_n, AI_ff, AI_fl, AI_la, AI_tt, FI_aa, FI_la, FI_fl, FI_tt, AL_ff, AL_aa, AL_fw, AL_tt, eW1, eM1, eB1, eP1, eD1, eS1, eJ1, eL1, eQ1, eO1, eA1]; done) | fail) only [s33_0, s33_5, s33_9, s33_13, s33_20, s33_27, s33_50, s256_0, s256_11, s256_19, s256_26, s256_36, s256_48, s256_60, c46_t, c46_f, c42_t, c42_f, c43_t, c43_f, c44_t, c44_f, c45_t, c45_f, c166_T, c166_F, c165_t, c165_f, c169_t, c169_f, c170_t, c170_f, c209_t, c209_f, c244_t, c244_f, H51_t, H51_f, H52_t, H52_f, H241_t, H241_f, HXnS, HYnS, HNnS, HOnS, aft_v, aft_n, aft_x2, z00, z10, oTr, oFa, cond_true, cond_false, nI_add, nI_mul, nI_s1, nI_clamp, inbT, oltT, oltF, oleT, oleF, oeqT, oeqF, is01_0, is01_1, AI_q, AI_n, AL_q, AL_n, FI_q, FI_n, AI_ff, AI_fl, AI_la, AI_tt, FI_aa, FI_la, FI_fl, FI_tt, AL_ff, AL_aa, AL_fw, AL_tt, eW, eWc, eM, eMc, eB, eBc, eP, ePc, eD, eDc, eS, eSc, eJ, eJc, eL, eLc, eQ, eQc, eO, eOc, eA, eAc, eW1, eM1, eB1, eP1, eD1, eS1, eJ1, eL1, eQ1, eO1, eA1, k2, e83', e84']
    | 1, _ =>
      refine opQ_of hI0 (.int (nI Y)) ⟨_, rfl⟩ (fun d => ?_) (fun σ1 z e ho => ?_)
      · obtain ⟨τ', o1, k1⟩ := cl d
        rw [hr] at k1
        have k2 : Run false (d + 39) 68 0 [some (.ref 0), some (.int (nI c)), some (.int (nI s)), some (.int (nI y)), none, none] [] σ = some (.inl (some (.int (nI Y)), τ')) := k1
        have k3 := c116 (d := d + 39) (by omega) hFF eO eOc hO hY o1
        refine ⟨τ', o1, ?_⟩
        simp (disch := first | omega | assumption | exact FI_q | exact nI_10 | exact nI_20 | exact nI_30 | (simp (disch := omega) only [AI_q, AI_n, AL_q, AL_n, FI_q, FI_n, AI_ff, AI_fl, AI_la, AI_tt, FI_aa, FI_la, FI_fl, FI_tt, AL_ff, AL_aa, AL_fw, AL_tt, eW, eWc, eM, eMc, eB, eBc, eP, ePc, eD, eDc, eS, eSc, eJ, eJc, eL, eLc, eQ, eQc, eO, eOc, eA, eAc]; done) | fail) only [s33_0, s33_5, s33_9, s33_13, s33_20, s33_27, s33_50, s256_0, s256_11, s256_19, s256_26, s256_36, s256_48, s256_60, c46_t, c46_f, c42_t, c42_f, c43_t, c43_f, c44_t, c44_f, c45_t, c45_f, c166_T, c166_F, c165_t, c165_f, c169_t, c169_f, c170_t, c170_f, c209_t, c209_f, c244_t, c244_f, H51_t, H51_f, H52_t, H52_f, H241_t, H241_f, HXnS, HYnS, HNnS, HOnS, aft_v, aft_n, aft_x2, z00, z10, oTr, oFa, cond_true, cond_false, nI_add, nI_mul, nI_s1, nI_clamp, inbT, oltT, oltF, oleT, oleF, oeqT, oeqF, is01_0, is01_1, AI_q, AI_n, AL_q, AL_n, FI_q, FI_n, AI_ff, AI_fl, AI_la, AI_tt, FI_aa, FI_la, FI_fl, FI_tt, AL_ff, AL_aa, AL_fw, AL_tt, eW, eWc, eM, eMc, eB, eBc, eP, ePc, eD, eDc, eS, eSc, eJ, eJc, eL, eLc, eQ, eQc, eO, eOc, eA, eAc, k2, k3]
      · obtain ⟨τ', o1, e83, e84, k1⟩ := ml (wFI (wAL σ1 145 0 z) 85 0 (nI 0)) e (offG_fi rfl (offG_al rfl (bu_off ho)))
        rw [hr] at k1 e83 e84
        have e83' : FI τ' 85 83 = nI Y := e83
        have e84' : FI τ' 85 84 = nI (smB (opP σ) nO Y) := e84
        have k2 : Run false (e + 39) 254 0 [some (.ref 85), some (.int (nI c)), some (.int (nI s)), some (.int (nI y)), none, none, none, none, none, none, none, none, none] [] (wFI (wAL σ1 145 0 z) 85 0 (nI 0)) = some (.inl (some (.int (nI 1)), τ')) := k1
        have eW1 := (offF ho 85 1 rfl).trans eW
        have eM1 := (offF ho 85 29 rfl).trans eM
        have eB1 := (offF ho 85 2 rfl).trans eB
        have eP1 := (offF ho 85 30 rfl).trans eP
        have eD1 := (offF ho 85 39 rfl).trans eD
        have eS1 := (offF ho 85 52 rfl).trans eS
        have eJ1 := (offF ho 85 53 rfl).trans eJ
        have eL1 := (offF ho 85 62 rfl).trans eL
        have eQ1 := (offF ho 85 63 rfl).trans eQ
        have eO1 := (offF ho 85 75 rfl).trans eO
        have eA1 := (offF ho 85 85 rfl).trans eA
        refine ⟨τ', o1, ?_⟩
        simp (disch := first | omega | assumption | exact FI_q | exact nI_10 | exact nI_20 | exact nI_30 | (simp (disch := omega) only [AI_q, AI_n, AL_q, AL_n, FI_q, FI_n, AI_ff, AI_fl, AI_la, AI_tt, FI_aa, FI_la, FI_fl, FI_tt, AL_ff, AL_aa, AL_fw, AL_tt, eW1, eM1, eB1, eP1, eD1, eS1, eJ1, eL1, eQ1, eO1, eA1]; done) | fail) only [s33_0, s33_5, s33_9, s33_13, s33_20, s33_27, s33_50, s256_0, s256_11, s256_19, s256_26, s256_36, s256_48, s256_60, c46_t, c46_f, c42_t, c42_f, c43_t, c43_f, c44_t, c44_f, c45_t, c45_f, c166_T, c166_F, c165_t, c165_f, c169_t, c169_f, c170_t, c170_f, c209_t, c209_f, c244_t, c244_f, H51_t, H51_f, H52_t, H52_f, H241_t, H241_f, HXnS, HYnS, HNnS, HOnS, aft_v, aft_n, aft_x2, z00, z10, oTr, oFa, cond_true, cond_false, nI_add, nI_mul, nI_s1, nI_clamp, inbT, oltT, oltF, oleT, oleF, oeqT, oeqF, is01_0, is01_1, AI_q, AI_n, AL_q, AL_n, FI_q, FI_n, AI_ff, AI_fl, AI_la, AI_tt, FI_aa, FI_la, FI_fl, FI_tt, AL_ff, AL_aa, AL_fw, AL_tt, eW, eWc, eM, eMc, eB, eBc, eP, ePc, eD, eDc, eS, eSc, eJ, eJc, eL, eLc, eQ, eQc, eO, eOc, eA, eAc, eW1, eM1, eB1, eP1, eD1, eS1, eJ1, eL1, eQ1, eO1, eA1, k2, e83', e84']
    | w + 2, h => exact absurd h (by omega)

set_option maxHeartbeats 8000000 in
theorem op_buy {σ : PS} (hI : Inv σ) (a1 a2 a3 : Int32) : Op (fun d σ => Run false d 34 0 [some (.ref 0), some (.int a1), some (.int a2), some (.int a3), none, none] [] σ) (fun d σ => Run false d 257 0 [some (.ref 85), some (.int a1), some (.int a2), some (.int a3), none] [] σ) σ isI (fun E => if E = 3 then 1 else if E = 1 then 2 else 0) := by
  have hI0 := hI
  obtain ⟨⟨⟨nW, hW, eW, eWc⟩, ⟨nM, hM, eM, eMc⟩, eTr, eIs⟩, ⟨⟨nB, hB, eB, eBc, hBy⟩, eFa, eC10⟩, ⟨⟨nP, hP, eP, ePc, hTr⟩, hPk, hSo, hGr, hCo⟩, ⟨nD, hD, eD, eDc, hDe⟩, ⟨⟨nS, hS, eS, eSc⟩, ⟨nJ, hJ, eJ, eJc, hJo⟩, hPa⟩, ⟨nL, nQ, hL, hQ, eL, eLc, eQ, eQc, hLo, hNo, eFg⟩, ⟨nO, hO, eO, eOc, hOf, hOz⟩, ⟨nA, hA, eA, eAc, hSa⟩, ⟨hBi, hOr⟩, LS, hIL⟩ := hI
  have H51_t := fun (d : Nat) (σ : PS) (a : Int32) => @c51_t d σ a nS
  have H51_f := fun (d : Nat) (σ : PS) (a : Int32) => @c51_f d σ a nS
  have H52_t := fun (d : Nat) (σ : PS) (a : Int32) => @c52_t d σ a nS
  have H52_f := fun (d : Nat) (σ : PS) (a : Int32) => @c52_f d σ a nS
  have H241_t := fun (d : Nat) (σ : PS) (a c : Int32) => @c241_t d σ a nS c
  have H241_f := fun (d : Nat) (σ : PS) (a c : Int32) => @c241_f d σ a nS c
  have HXnS := fun (d : Nat) (σ : PS) (a : Int32) => @c166_X d σ a nS
  have HYnS := fun (d : Nat) (σ : PS) (a : Int32) => @c166_Y d σ a nS
  have HNnS := fun (d : Nat) (σ : PS) (a : Int32) => @c166_N d σ a nS
  have HOnS := fun (d : Nat) (σ : PS) (a : Int32) => @c166_M d σ a nS
  by_cases h1 : IX nS a1
  case neg =>
    refine opE_of hI0 3 1 (.int (nI 0)) ⟨_, rfl⟩ (by decide) rfl (by decide) (fun d => ?_) (fun d => ?_)
    · simp (disch := first | omega | assumption | exact FI_q | exact nI_10 | exact nI_20 | exact nI_30 | (simp (disch := omega) only [AI_q, AI_n, AL_q, AL_n, FI_q, FI_n, AI_ff, AI_fl, AI_la, AI_tt, FI_aa, FI_la, FI_fl, FI_tt, AL_ff, AL_aa, AL_fw, AL_tt, eW, eWc, eM, eMc, eB, eBc, eP, ePc, eD, eDc, eS, eSc, eJ, eJc, eL, eLc, eQ, eQc, eO, eOc, eA, eAc]; done) | fail) only [s34_0, s34_5, s34_9, s34_13, s34_20, s34_38, s34_55, s257_0, s257_11, s257_19, s257_26, s257_38, s257_50, c46_t, c46_f, c42_t, c42_f, c43_t, c43_f, c44_t, c44_f, c45_t, c45_f, c166_T, c166_F, c165_t, c165_f, c169_t, c169_f, c170_t, c170_f, c209_t, c209_f, c244_t, c244_f, H51_t, H51_f, H52_t, H52_f, H241_t, H241_f, HXnS, HYnS, HNnS, HOnS, aft_v, aft_n, aft_x2, z00, z10, oTr, oFa, cond_true, cond_false, nI_add, nI_mul, nI_s1, nI_clamp, inbT, oltT, oltF, oleT, oleF, oeqT, oeqF, is01_0, is01_1, AI_q, AI_n, AL_q, AL_n, FI_q, FI_n, AI_ff, AI_fl, AI_la, AI_tt, FI_aa, FI_la, FI_fl, FI_tt, AL_ff, AL_aa, AL_fw, AL_tt, eW, eWc, eM, eMc, eB, eBc, eP, ePc, eD, eDc, eS, eSc, eJ, eJc, eL, eLc, eQ, eQc, eO, eOc, eA, eAc]
    · simp (disch := first | omega | assumption | exact FI_q | exact nI_10 | exact nI_20 | exact nI_30 | (simp (disch := omega) only [AI_q, AI_n, AL_q, AL_n, FI_q, FI_n, AI_ff, AI_fl, AI_la, AI_tt, FI_aa, FI_la, FI_fl, FI_tt, AL_ff, AL_aa, AL_fw, AL_tt, eW, eWc, eM, eMc, eB, eBc, eP, ePc, eD, eDc, eS, eSc, eJ, eJc, eL, eLc, eQ, eQc, eO, eOc, eA, eAc]; done) | fail) only [s34_0, s34_5, s34_9, s34_13, s34_20, s34_38, s34_55, s257_0, s257_11, s257_19, s257_26, s257_38, s257_50, c46_t, c46_f, c42_t, c42_f, c43_t, c43_f, c44_t, c44_f, c45_t, c45_f, c166_T, c166_F, c165_t, c165_f, c169_t, c169_f, c170_t, c170_f, c209_t, c209_f, c244_t, c244_f, H51_t, H51_f, H52_t, H52_f, H241_t, H241_f, HXnS, HYnS, HNnS, HOnS, aft_v, aft_n, aft_x2, z00, z10, oTr, oFa, cond_true, cond_false, nI_add, nI_mul, nI_s1, nI_clamp, inbT, oltT, oltF, oleT, oleF, oeqT, oeqF, is01_0, is01_1, AI_q, AI_n, AL_q, AL_n, FI_q, FI_n, AI_ff, AI_fl, AI_la, AI_tt, FI_aa, FI_la, FI_fl, FI_tt, AL_ff, AL_aa, AL_fw, AL_tt, eW, eWc, eM, eMc, eB, eBc, eP, ePc, eD, eDc, eS, eSc, eJ, eJc, eL, eLc, eQ, eQc, eO, eOc, eA, eAc]
  by_cases h2 : IR 0 4 a2
  case neg =>
    refine opE_of hI0 1 2 (.int (nI 0)) ⟨_, rfl⟩ (by decide) rfl (by decide) (fun d => ?_) (fun d => ?_)
    · simp (disch := first | omega | assumption | exact FI_q | exact nI_10 | exact nI_20 | exact nI_30 | (simp (disch := omega) only [AI_q, AI_n, AL_q, AL_n, FI_q, FI_n, AI_ff, AI_fl, AI_la, AI_tt, FI_aa, FI_la, FI_fl, FI_tt, AL_ff, AL_aa, AL_fw, AL_tt, eW, eWc, eM, eMc, eB, eBc, eP, ePc, eD, eDc, eS, eSc, eJ, eJc, eL, eLc, eQ, eQc, eO, eOc, eA, eAc]; done) | fail) only [s34_0, s34_5, s34_9, s34_13, s34_20, s34_38, s34_55, s257_0, s257_11, s257_19, s257_26, s257_38, s257_50, c46_t, c46_f, c42_t, c42_f, c43_t, c43_f, c44_t, c44_f, c45_t, c45_f, c166_T, c166_F, c165_t, c165_f, c169_t, c169_f, c170_t, c170_f, c209_t, c209_f, c244_t, c244_f, H51_t, H51_f, H52_t, H52_f, H241_t, H241_f, HXnS, HYnS, HNnS, HOnS, aft_v, aft_n, aft_x2, z00, z10, oTr, oFa, cond_true, cond_false, nI_add, nI_mul, nI_s1, nI_clamp, inbT, oltT, oltF, oleT, oleF, oeqT, oeqF, is01_0, is01_1, AI_q, AI_n, AL_q, AL_n, FI_q, FI_n, AI_ff, AI_fl, AI_la, AI_tt, FI_aa, FI_la, FI_fl, FI_tt, AL_ff, AL_aa, AL_fw, AL_tt, eW, eWc, eM, eMc, eB, eBc, eP, ePc, eD, eDc, eS, eSc, eJ, eJc, eL, eLc, eQ, eQc, eO, eOc, eA, eAc]
    · simp (disch := first | omega | assumption | exact FI_q | exact nI_10 | exact nI_20 | exact nI_30 | (simp (disch := omega) only [AI_q, AI_n, AL_q, AL_n, FI_q, FI_n, AI_ff, AI_fl, AI_la, AI_tt, FI_aa, FI_la, FI_fl, FI_tt, AL_ff, AL_aa, AL_fw, AL_tt, eW, eWc, eM, eMc, eB, eBc, eP, ePc, eD, eDc, eS, eSc, eJ, eJc, eL, eLc, eQ, eQc, eO, eOc, eA, eAc]; done) | fail) only [s34_0, s34_5, s34_9, s34_13, s34_20, s34_38, s34_55, s257_0, s257_11, s257_19, s257_26, s257_38, s257_50, c46_t, c46_f, c42_t, c42_f, c43_t, c43_f, c44_t, c44_f, c45_t, c45_f, c166_T, c166_F, c165_t, c165_f, c169_t, c169_f, c170_t, c170_f, c209_t, c209_f, c244_t, c244_f, H51_t, H51_f, H52_t, H52_f, H241_t, H241_f, HXnS, HYnS, HNnS, HOnS, aft_v, aft_n, aft_x2, z00, z10, oTr, oFa, cond_true, cond_false, nI_add, nI_mul, nI_s1, nI_clamp, inbT, oltT, oltF, oleT, oleF, oeqT, oeqF, is01_0, is01_1, AI_q, AI_n, AL_q, AL_n, FI_q, FI_n, AI_ff, AI_fl, AI_la, AI_tt, FI_aa, FI_la, FI_fl, FI_tt, AL_ff, AL_aa, AL_fw, AL_tt, eW, eWc, eM, eMc, eB, eBc, eP, ePc, eD, eDc, eS, eSc, eJ, eJc, eL, eLc, eQ, eQc, eO, eOc, eA, eAc]
  by_cases h3 : IR 0 40 a3
  case neg =>
    refine opE_of hI0 1 2 (.int (nI 0)) ⟨_, rfl⟩ (by decide) rfl (by decide) (fun d => ?_) (fun d => ?_)
    · simp (disch := first | omega | assumption | exact FI_q | exact nI_10 | exact nI_20 | exact nI_30 | (simp (disch := omega) only [AI_q, AI_n, AL_q, AL_n, FI_q, FI_n, AI_ff, AI_fl, AI_la, AI_tt, FI_aa, FI_la, FI_fl, FI_tt, AL_ff, AL_aa, AL_fw, AL_tt, eW, eWc, eM, eMc, eB, eBc, eP, ePc, eD, eDc, eS, eSc, eJ, eJc, eL, eLc, eQ, eQc, eO, eOc, eA, eAc]; done) | fail) only [s34_0, s34_5, s34_9, s34_13, s34_20, s34_38, s34_55, s257_0, s257_11, s257_19, s257_26, s257_38, s257_50, c46_t, c46_f, c42_t, c42_f, c43_t, c43_f, c44_t, c44_f, c45_t, c45_f, c166_T, c166_F, c165_t, c165_f, c169_t, c169_f, c170_t, c170_f, c209_t, c209_f, c244_t, c244_f, H51_t, H51_f, H52_t, H52_f, H241_t, H241_f, HXnS, HYnS, HNnS, HOnS, aft_v, aft_n, aft_x2, z00, z10, oTr, oFa, cond_true, cond_false, nI_add, nI_mul, nI_s1, nI_clamp, inbT, oltT, oltF, oleT, oleF, oeqT, oeqF, is01_0, is01_1, AI_q, AI_n, AL_q, AL_n, FI_q, FI_n, AI_ff, AI_fl, AI_la, AI_tt, FI_aa, FI_la, FI_fl, FI_tt, AL_ff, AL_aa, AL_fw, AL_tt, eW, eWc, eM, eMc, eB, eBc, eP, ePc, eD, eDc, eS, eSc, eJ, eJc, eL, eLc, eQ, eQc, eO, eOc, eA, eAc]
    · simp (disch := first | omega | assumption | exact FI_q | exact nI_10 | exact nI_20 | exact nI_30 | (simp (disch := omega) only [AI_q, AI_n, AL_q, AL_n, FI_q, FI_n, AI_ff, AI_fl, AI_la, AI_tt, FI_aa, FI_la, FI_fl, FI_tt, AL_ff, AL_aa, AL_fw, AL_tt, eW, eWc, eM, eMc, eB, eBc, eP, ePc, eD, eDc, eS, eSc, eJ, eJc, eL, eLc, eQ, eQc, eO, eOc, eA, eAc]; done) | fail) only [s34_0, s34_5, s34_9, s34_13, s34_20, s34_38, s34_55, s257_0, s257_11, s257_19, s257_26, s257_38, s257_50, c46_t, c46_f, c42_t, c42_f, c43_t, c43_f, c44_t, c44_f, c45_t, c45_f, c166_T, c166_F, c165_t, c165_f, c169_t, c169_f, c170_t, c170_f, c209_t, c209_f, c244_t, c244_f, H51_t, H51_f, H52_t, H52_f, H241_t, H241_f, HXnS, HYnS, HNnS, HOnS, aft_v, aft_n, aft_x2, z00, z10, oTr, oFa, cond_true, cond_false, nI_add, nI_mul, nI_s1, nI_clamp, inbT, oltT, oltF, oleT, oleF, oeqT, oeqF, is01_0, is01_1, AI_q, AI_n, AL_q, AL_n, FI_q, FI_n, AI_ff, AI_fl, AI_la, AI_tt, FI_aa, FI_la, FI_fl, FI_tt, AL_ff, AL_aa, AL_fw, AL_tt, eW, eWc, eM, eMc, eB, eBc, eP, ePc, eD, eDc, eS, eSc, eJ, eJc, eL, eLc, eQ, eQc, eO, eOc, eA, eAc]
  obtain ⟨c, hc, rfl⟩ := id h1
  obtain ⟨s, -, hs, rfl⟩ := id h2
  obtain ⟨y, -, hy, rfl⟩ := id h3
  have hS4 := hS
  have hC := IL_C hIL
  have hM' := IL_M hIL eIs
  have hPP : IP σ := hI0.2.2.1
  have hD' : ID σ := hI0.2.2.2.1
  have hSS : IS σ := hI0.2.2.2.2.1
  have hMM : IM σ := hI0.2.2.2.2.2.2.2.1
  have hOO : IO_ σ := hI0.2.2.2.2.2.1
  have hFF : IF_ σ := hI0.2.2.2.2.2.2.1
  have hdb : ∀ m s, dcN σ y (nI nW) nD m s ≤ 10000000 := fun m s => (dcN_e hD' eD hD).2
  obtain ⟨eo84, o, -, ho2, eo⟩ := hOr (s * 41 + y) (by omega)
  have e41 : s * 41 + y = 41 * s + y := by omega
  rw [eo] at eo84
  have hFm := ifm_of hFF eO hO
  obtain ⟨E, hE, hsh⟩ := shV_N (b := (bdV (fun m => (inR σ m y nJ).2) (fun m => b1 (sumN (dcN σ y (nI nW) nD m) 5 < numV (clL LS 5 0 y) 0)) (dcN σ y (nI nW) nD) LS y nM nS o c s)) (e := (lN (ntV σ (nI c) (nI s) (nI y) (nI nW) nQ + ofV σ (nI c) (nI s) (nI y) (nI nW) nO)))
  have cl : ∀ d, ∃ τ', Off σ τ' ∧ Run false (d + 39) 68 0 [some (.ref 0), some (.int (nI c)), some (.int (nI s)), some (.int (nI y)), none, none] [] σ = some (.inl (some (.int (cSet (setR σ nO s E))), τ')) := fun d => by
      obtain ⟨τ, o1, v1, r1⟩ := c55 (d := d + 38) (k := (nI nW)) (by omega) hy hC hD' eDc hD hSS eJc hJ eMc hM
      have hCW : CW τ LS nM nS (dcN σ y (nI nW) nD) (fun m => sumN (dcN σ y (nI nW) nD m) 5 < numV (clL LS 5 0 y) 0) (fun m => (inR σ m y nJ).2) := ⟨v1, LC_off o1 hC, (offF o1 0 1 rfl).trans eMc, (offF o1 31 0 rfl).trans eSc, hM, hS4, hdb⟩
      exact c68 (d := d + 38) (by omega) hy off_r ⟨τ, o1, hCW, r1⟩ (by omega) hc eo84 ho2 hOO hFF eQ eQc hQ eO eOc hO eWc hE hsh
  have ml : ∀ τ e, OffG buF buA σ τ → ∃ τ', Off τ τ' ∧ FI τ' 85 83 = mSet (setR σ nO s E) ∧ FI τ' 85 84 = mPri σ nO (setR σ nO s E) ∧ Run false (e + 39) 254 0 [some (.ref 85), some (.int (nI c)), some (.int (nI s)), some (.int (nI y)), none, none, none, none, none, none, none, none, none] [] τ = some (.inl (some (.int (mA6 (setR σ nO s E))), τ')) := fun τ e h =>
    bu_M (by omega) hI0 hIL h hy (by omega) hc eW eJ hJ eM hM eS hS4 eD hD eTr eIs (by rw [← e41]; exact eo) ho2 eQ hQ eO hO hE hsh
  cases hr : (setR σ nO s E) with
  | none =>
    refine opQ_of hI0 (.int (-1 : Int32)) ⟨_, rfl⟩ (fun d => ?_) (fun σ1 z e ho => ?_)
    · obtain ⟨τ', o1, k1⟩ := cl d
      rw [hr] at k1
      have k2 : Run false (d + 39) 68 0 [some (.ref 0), some (.int (nI c)), some (.int (nI s)), some (.int (nI y)), none, none] [] σ = some (.inl (some (.int (-1 : Int32)), τ')) := k1
      refine ⟨τ', o1, ?_⟩
      simp (disch := first | omega | assumption | exact FI_q | exact nI_10 | exact nI_20 | exact nI_30 | (simp (disch := omega) only [AI_q, AI_n, AL_q, AL_n, FI_q, FI_n, AI_ff, AI_fl, AI_la, AI_tt, FI_aa, FI_la, FI_fl, FI_tt, AL_ff, AL_aa, AL_fw, AL_tt, eW, eWc, eM, eMc, eB, eBc, eP, ePc, eD, eDc, eS, eSc, eJ, eJc, eL, eLc, eQ, eQc, eO, eOc, eA, eAc]; done) | fail) only [s34_0, s34_5, s34_9, s34_13, s34_20, s34_38, s34_55, s257_0, s257_11, s257_19, s257_26, s257_38, s257_50, c46_t, c46_f, c42_t, c42_f, c43_t, c43_f, c44_t, c44_f, c45_t, c45_f, c166_T, c166_F, c165_t, c165_f, c169_t, c169_f, c170_t, c170_f, c209_t, c209_f, c244_t, c244_f, H51_t, H51_f, H52_t, H52_f, H241_t, H241_f, HXnS, HYnS, HNnS, HOnS, aft_v, aft_n, aft_x2, z00, z10, oTr, oFa, cond_true, cond_false, nI_add, nI_mul, nI_s1, nI_clamp, inbT, oltT, oltF, oleT, oleF, oeqT, oeqF, is01_0, is01_1, AI_q, AI_n, AL_q, AL_n, FI_q, FI_n, AI_ff, AI_fl, AI_la, AI_tt, FI_aa, FI_la, FI_fl, FI_tt, AL_ff, AL_aa, AL_fw, AL_tt, eW, eWc, eM, eMc, eB, eBc, eP, ePc, eD, eDc, eS, eSc, eJ, eJc, eL, eLc, eQ, eQc, eO, eOc, eA, eAc, k2, Om1]
    · obtain ⟨τ', o1, e83, e84, k1⟩ := ml (wFI (wAL σ1 145 0 z) 85 0 (nI 0)) e (offG_fi rfl (offG_al rfl (bu_off ho)))
      rw [hr] at k1
      have k2 : Run false (e + 39) 254 0 [some (.ref 85), some (.int (nI c)), some (.int (nI s)), some (.int (nI y)), none, none, none, none, none, none, none, none, none] [] (wFI (wAL σ1 145 0 z) 85 0 (nI 0)) = some (.inl (some (.int (nI 0)), τ')) := k1
      have eW1 := (offF ho 85 1 rfl).trans eW
      have eM1 := (offF ho 85 29 rfl).trans eM
      have eB1 := (offF ho 85 2 rfl).trans eB
      have eP1 := (offF ho 85 30 rfl).trans eP
      have eD1 := (offF ho 85 39 rfl).trans eD
      have eS1 := (offF ho 85 52 rfl).trans eS
      have eJ1 := (offF ho 85 53 rfl).trans eJ
      have eL1 := (offF ho 85 62 rfl).trans eL
      have eQ1 := (offF ho 85 63 rfl).trans eQ
      have eO1 := (offF ho 85 75 rfl).trans eO
      have eA1 := (offF ho 85 85 rfl).trans eA
      refine ⟨τ', o1, ?_⟩
      simp (disch := first | omega | assumption | exact FI_q | exact nI_10 | exact nI_20 | exact nI_30 | (simp (disch := omega) only [AI_q, AI_n, AL_q, AL_n, FI_q, FI_n, AI_ff, AI_fl, AI_la, AI_tt, FI_aa, FI_la, FI_fl, FI_tt, AL_ff, AL_aa, AL_fw, AL_tt, eW1, eM1, eB1, eP1, eD1, eS1, eJ1, eL1, eQ1, eO1, eA1]; done) | fail) only [s34_0, s34_5, s34_9, s34_13, s34_20, s34_38, s34_55, s257_0, s257_11, s257_19, s257_26, s257_38, s257_50, c46_t, c46_f, c42_t, c42_f, c43_t, c43_f, c44_t, c44_f, c45_t, c45_f, c166_T, c166_F, c165_t, c165_f, c169_t, c169_f, c170_t, c170_f, c209_t, c209_f, c244_t, c244_f, H51_t, H51_f, H52_t, H52_f, H241_t, H241_f, HXnS, HYnS, HNnS, HOnS, aft_v, aft_n, aft_x2, z00, z10, oTr, oFa, cond_true, cond_false, nI_add, nI_mul, nI_s1, nI_clamp, inbT, oltT, oltF, oleT, oleF, oeqT, oeqF, is01_0, is01_1, AI_q, AI_n, AL_q, AL_n, FI_q, FI_n, AI_ff, AI_fl, AI_la, AI_tt, FI_aa, FI_la, FI_fl, FI_tt, AL_ff, AL_aa, AL_fw, AL_tt, eW, eWc, eM, eMc, eB, eBc, eP, ePc, eD, eDc, eS, eSc, eJ, eJc, eL, eLc, eQ, eQc, eO, eOc, eA, eAc, eW1, eM1, eB1, eP1, eD1, eS1, eJ1, eL1, eQ1, eO1, eA1, k2]
  | some Y =>
    have hY := setR_lt hFm hr
    have lP := smP_le (X := Y) hFm hO (Nat.le_refl nO)
    have hp12 : (2 : Nat) ^ nO ≤ 2 ^ 12 := Nat.pow_le_pow_right (by decide) hO
    refine opW_of (.int (nI (smB (opP σ) nO Y))) ⟨_, rfl⟩ (fun σ1 => ∃ υ, Off σ υ ∧ σ1 = (wAI (slC υ Y (nI c) (nI y) (nI nW) nO) 32 c (AI σ 32 c + nI (smB (opP σ) nO Y)))) (fun d => ?_) (fun σ1 z e hp => ?_)
    · obtain ⟨υ, o1, k1⟩ := cl d
      rw [hr] at k1
      have k2 : Run false (d + 39) 68 0 [some (.ref 0), some (.int (nI c)), some (.int (nI s)), some (.int (nI y)), none, none] [] σ = some (.inl (some (.int (nI Y)), υ)) := k1
      have k3 := c116 (d := d + 39) (by omega) hFF eO eOc hO hY o1
      have eW0 : FI υ 0 0 = nI nW := (offF o1 0 0 rfl).trans eWc
      have k4 := c117 (d := d + 39) (τ := υ) (Y := Y) (c := nI c) (y := nI y) (w := nI nW) (by omega) ((offF o1 71 0 rfl).trans eOc) hO hY
      have e32 : AI (slC υ Y (nI c) (nI y) (nI nW) nO) 32 c = AI σ 32 c := by
        rw [((slC_g (σ := υ) (sF := buF) (sA := fun o => Nat.ble 75 o && Nat.ble o 77) (Y := Y) (c := nI c) (y := nI y) (w := nI nW) rfl rfl rfl nO).1.2 32 rfl).1, offA o1 32 rfl]
      refine ⟨_, ⟨υ, o1, rfl⟩, ?_⟩
      simp (disch := first | omega | assumption | exact FI_q | exact nI_10 | exact nI_20 | exact nI_30 | (simp (disch := omega) only [AI_q, AI_n, AL_q, AL_n, FI_q, FI_n, AI_ff, AI_fl, AI_la, AI_tt, FI_aa, FI_la, FI_fl, FI_tt, AL_ff, AL_aa, AL_fw, AL_tt, eW, eWc, eM, eMc, eB, eBc, eP, ePc, eD, eDc, eS, eSc, eJ, eJc, eL, eLc, eQ, eQc, eO, eOc, eA, eAc]; done) | fail) only [s34_0, s34_5, s34_9, s34_13, s34_20, s34_38, s34_55, s257_0, s257_11, s257_19, s257_26, s257_38, s257_50, c46_t, c46_f, c42_t, c42_f, c43_t, c43_f, c44_t, c44_f, c45_t, c45_f, c166_T, c166_F, c165_t, c165_f, c169_t, c169_f, c170_t, c170_f, c209_t, c209_f, c244_t, c244_f, H51_t, H51_f, H52_t, H52_f, H241_t, H241_f, HXnS, HYnS, HNnS, HOnS, aft_v, aft_n, aft_x2, z00, z10, oTr, oFa, cond_true, cond_false, nI_add, nI_mul, nI_s1, nI_clamp, inbT, oltT, oltF, oleT, oleF, oeqT, oeqF, is01_0, is01_1, AI_q, AI_n, AL_q, AL_n, FI_q, FI_n, AI_ff, AI_fl, AI_la, AI_tt, FI_aa, FI_la, FI_fl, FI_tt, AL_ff, AL_aa, AL_fw, AL_tt, eW, eWc, eM, eMc, eB, eBc, eP, ePc, eD, eDc, eS, eSc, eJ, eJc, eL, eLc, eQ, eQc, eO, eOc, eA, eAc, k2, k3, eW0, k4, e32]
    · obtain ⟨υ, ho, rfl⟩ := hp
      have hg := bu_cls (σ := σ) (υ := υ) (Y := Y) (n := nO) (c := c) (a := nI c) (b := nI y) (w := nI nW) (v := AI σ 32 c + nI (smB (opP σ) nO Y)) (z := z) ho
      obtain ⟨τ', o1, e83, e84, k1⟩ := ml _ e hg
      rw [hr] at k1 e83 e84
      have e83' : FI τ' 85 83 = nI Y := e83
      have e84' : FI τ' 85 84 = nI (smB (opP σ) nO Y) := e84
      have k2 : Run false (e + 39) 254 0 [some (.ref 85), some (.int (nI c)), some (.int (nI s)), some (.int (nI y)), none, none, none, none, none, none, none, none, none] [] (wFI (wAL (wAI (slC υ Y (nI c) (nI y) (nI nW) nO) 32 c (AI σ 32 c + nI (smB (opP σ) nO Y))) 145 0 z) 85 0 (nI 0)) = some (.inl (some (.int (nI 1)), τ')) := k1
      have e118 : AI τ' 118 c = AI σ 118 c := by rw [offA o1 118 rfl, (hg.2 118 rfl).1]
      have k3 := c257_lp (d := e + 39) (n := nO) (Y := Y) (c := c) (a2 := nI s) (y := nI y) (w := nI nW) (τ := τ') ((offF o1 85 75 rfl).trans ((hg.1 85 75 rfl).trans eO)) hO hY e83' ((offF o1 85 1 rfl).trans ((hg.1 85 1 rfl).trans eW)) (by omega)
      rw [e84', e118] at k3
      obtain ⟨i1, i2, i3, i4⟩ := bu_I hI0 eO hO (show c < 4 by omega) ho o1
      refine ⟨_, ?_, i1, i2, i3, i4⟩
      have efS : FI (wAI (slC υ Y (nI c) (nI y) (nI nW) nO) 32 c (AI σ 32 c + nI (smB (opP σ) nO Y))) = FI υ := (slC_g (σ := υ) (sF := buF) (sA := buA) (Y := Y) (c := nI c) (y := nI y) (w := nI nW) rfl rfl rfl nO).2.1
      have eS1 : FI (wAI (slC υ Y (nI c) (nI y) (nI nW) nO) 32 c (AI σ 32 c + nI (smB (opP σ) nO Y))) 85 52 = nI nS := by rw [efS]; exact (offF ho 85 52 rfl).trans eS
      simp (disch := first | omega | assumption | exact FI_q | exact nI_10 | exact nI_20 | exact nI_30 | (simp (disch := omega) only [AI_q, AI_n, AL_q, AL_n, FI_q, FI_n, AI_ff, AI_fl, AI_la, AI_tt, FI_la, FI_fl, FI_tt, AL_ff, AL_fw, AL_tt, eS1]; done) | fail) only [s34_0, s34_5, s34_9, s34_13, s34_20, s34_38, s34_55, s257_0, s257_11, s257_19, s257_26, s257_38, s257_50, c46_t, c46_f, c42_t, c42_f, c43_t, c43_f, c44_t, c44_f, c45_t, c45_f, c166_T, c166_F, c165_t, c165_f, c169_t, c169_f, c170_t, c170_f, c209_t, c209_f, c244_t, c244_f, H51_t, H51_f, H52_t, H52_f, H241_t, H241_f, HXnS, HYnS, HNnS, HOnS, aft_v, aft_n, aft_x2, z00, z10, oTr, oFa, cond_true, cond_false, nI_add, nI_mul, nI_s1, nI_clamp, inbT, oltT, oltF, oleT, oleF, oeqT, oeqF, is01_0, is01_1, AI_q, AI_n, AL_q, AL_n, FI_q, FI_n, AI_ff, AI_fl, AI_la, AI_tt, FI_aa, FI_la, FI_fl, FI_tt, AL_ff, AL_aa, AL_fw, AL_tt, eW, eWc, eM, eMc, eB, eBc, eP, ePc, eD, eDc, eS, eSc, eJ, eJc, eL, eLc, eQ, eQc, eO, eOc, eA, eAc, eS1, k2, k3]
