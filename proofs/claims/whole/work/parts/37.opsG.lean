/-! printed by wip/whole/ops.py: the ops that write no more than they say -/
set_option maxHeartbeats 8000000 in
theorem op_span {σ : PS} (hI : Inv σ) (a1 a2 a3 a4 : Int32) : Op (fun d σ => Run false d 37 0 [some (.ref 0), some (.int a1), some (.int a2), some (.int a3), some (.int a4), none] [] σ) (fun d σ => Run false d 262 0 [some (.ref 85), some (.int a1), some (.int a2), some (.int a3), some (.int a4)] [] σ) σ isI (fun E => if E = 4 then 1 else if E = 1 then 2 else 0) := by
  have hI0 := hI
  obtain ⟨⟨⟨nW, hW, eW, eWc⟩, ⟨nM, hM, eM, eMc⟩, eTr, eIs⟩, ⟨⟨nB, hB, eB, eBc, hBy⟩, eFa, eC10⟩, ⟨⟨nP, hP, eP, ePc, hTr⟩, hPk, hSo, hGr, hCo⟩, ⟨nD, hD, eD, eDc, hDe⟩, ⟨⟨nS, hS, eS, eSc⟩, ⟨nJ, hJ, eJ, eJc, hJo⟩, hPa⟩, ⟨nL, nQ, hL, hQ, eL, eLc, eQ, eQc, hLo, hNo, eFg⟩, ⟨nO, hO, eO, eOc, hOf, hOz⟩, ⟨nA, hA, eA, eAc, hSa⟩, ⟨hBi, hOr⟩, LS, hIL⟩ := hI
  have H48_t := fun (d : Nat) (σ : PS) (a : Int32) => @c48_t d σ a nM
  have H48_f := fun (d : Nat) (σ : PS) (a : Int32) => @c48_f d σ a nM
  have H206_t := fun (d : Nat) (σ : PS) (a : Int32) => @c206_t d σ a nM
  have H206_f := fun (d : Nat) (σ : PS) (a : Int32) => @c206_f d σ a nM
  have HXnM := fun (d : Nat) (σ : PS) (a : Int32) => @c166_X d σ a nM
  have HYnM := fun (d : Nat) (σ : PS) (a : Int32) => @c166_Y d σ a nM
  have HNnM := fun (d : Nat) (σ : PS) (a : Int32) => @c166_N d σ a nM
  have HOnM := fun (d : Nat) (σ : PS) (a : Int32) => @c166_M d σ a nM
  by_cases h1 : IX nM a1
  case neg =>
    refine opE_of hI0 4 1 (.int (nI 0)) ⟨_, rfl⟩ (by decide) rfl (by decide) (fun d => ?_) (fun d => ?_)
    · simp (disch := first | omega | assumption | exact FI_q | exact nI_10 | exact nI_20 | exact nI_30 | (simp (disch := omega) only [AI_q, AI_n, AL_q, AL_n, FI_q, FI_n, AI_ff, AI_fl, AI_la, AI_tt, FI_aa, FI_la, FI_fl, FI_tt, AL_ff, AL_aa, AL_fw, AL_tt, eW, eWc, eM, eMc, eB, eBc, eP, ePc, eD, eDc, eS, eSc, eJ, eJc, eL, eLc, eQ, eQc, eO, eOc, eA, eAc]; done) | fail) only [s37_0, s37_5, s37_9, s37_13, s37_20, s37_29, s37_51, s37_69, s262_0, s262_10, s262_18, s262_25, s262_35, s262_47, s262_59, c46_t, c46_f, c42_t, c42_f, c43_t, c43_f, c44_t, c44_f, c45_t, c45_f, c166_T, c166_F, c165_t, c165_f, c169_t, c169_f, c170_t, c170_f, c209_t, c209_f, c244_t, c244_f, H48_t, H48_f, H206_t, H206_f, HXnM, HYnM, HNnM, HOnM, aft_v, aft_n, aft_x2, z00, z10, oTr, oFa, cond_true, cond_false, nI_add, nI_mul, nI_s1, nI_clamp, inbT, oltT, oltF, oleT, oleF, oeqT, oeqF, is01_0, is01_1, AI_q, AI_n, AL_q, AL_n, FI_q, FI_n, AI_ff, AI_fl, AI_la, AI_tt, FI_aa, FI_la, FI_fl, FI_tt, AL_ff, AL_aa, AL_fw, AL_tt, eW, eWc, eM, eMc, eB, eBc, eP, ePc, eD, eDc, eS, eSc, eJ, eJc, eL, eLc, eQ, eQc, eO, eOc, eA, eAc]
    · simp (disch := first | omega | assumption | exact FI_q | exact nI_10 | exact nI_20 | exact nI_30 | (simp (disch := omega) only [AI_q, AI_n, AL_q, AL_n, FI_q, FI_n, AI_ff, AI_fl, AI_la, AI_tt, FI_aa, FI_la, FI_fl, FI_tt, AL_ff, AL_aa, AL_fw, AL_tt, eW, eWc, eM, eMc, eB, eBc, eP, ePc, eD, eDc, eS, eSc, eJ, eJc, eL, eLc, eQ, eQc, eO, eOc, eA, eAc]; done) | fail) only [s37_0, s37_5, s37_9, s37_13, s37_20, s37_29, s37_51, s37_69, s262_0, s262_10, s262_18, s262_25, s262_35, s262_47, s262_59, c46_t, c46_f, c42_t, c42_f, c43_t, c43_f, c44_t, c44_f, c45_t, c45_f, c166_T, c166_F, c165_t, c165_f, c169_t, c169_f, c170_t, c170_f, c209_t, c209_f, c244_t, c244_f, H48_t, H48_f, H206_t, H206_f, HXnM, HYnM, HNnM, HOnM, aft_v, aft_n, aft_x2, z00, z10, oTr, oFa, cond_true, cond_false, nI_add, nI_mul, nI_s1, nI_clamp, inbT, oltT, oltF, oleT, oleF, oeqT, oeqF, is01_0, is01_1, AI_q, AI_n, AL_q, AL_n, FI_q, FI_n, AI_ff, AI_fl, AI_la, AI_tt, FI_aa, FI_la, FI_fl, FI_tt, AL_ff, AL_aa, AL_fw, AL_tt, eW, eWc, eM, eMc, eB, eBc, eP, ePc, eD, eDc, eS, eSc, eJ, eJc, eL, eLc, eQ, eQc, eO, eOc, eA, eAc]
  by_cases h2 : IR 0 4 a2
  case neg =>
    refine opE_of hI0 1 2 (.int (nI 0)) ⟨_, rfl⟩ (by decide) rfl (by decide) (fun d => ?_) (fun d => ?_)
    · simp (disch := first | omega | assumption | exact FI_q | exact nI_10 | exact nI_20 | exact nI_30 | (simp (disch := omega) only [AI_q, AI_n, AL_q, AL_n, FI_q, FI_n, AI_ff, AI_fl, AI_la, AI_tt, FI_aa, FI_la, FI_fl, FI_tt, AL_ff, AL_aa, AL_fw, AL_tt, eW, eWc, eM, eMc, eB, eBc, eP, ePc, eD, eDc, eS, eSc, eJ, eJc, eL, eLc, eQ, eQc, eO, eOc, eA, eAc]; done) | fail) only [s37_0, s37_5, s37_9, s37_13, s37_20, s37_29, s37_51, s37_69, s262_0, s262_10, s262_18, s262_25, s262_35, s262_47, s262_59, c46_t, c46_f, c42_t, c42_f, c43_t, c43_f, c44_t, c44_f, c45_t, c45_f, c166_T, c166_F, c165_t, c165_f, c169_t, c169_f, c170_t, c170_f, c209_t, c209_f, c244_t, c244_f, H48_t, H48_f, H206_t, H206_f, HXnM, HYnM, HNnM, HOnM, aft_v, aft_n, aft_x2, z00, z10, oTr, oFa, cond_true, cond_false, nI_add, nI_mul, nI_s1, nI_clamp, inbT, oltT, oltF, oleT, oleF, oeqT, oeqF, is01_0, is01_1, AI_q, AI_n, AL_q, AL_n, FI_q, FI_n, AI_ff, AI_fl, AI_la, AI_tt, FI_aa, FI_la, FI_fl, FI_tt, AL_ff, AL_aa, AL_fw, AL_tt, eW, eWc, eM, eMc, eB, eBc, eP, ePc, eD, eDc, eS, eSc, eJ, eJc, eL, eLc, eQ, eQc, eO, eOc, eA, eAc]
    · simp (disch := first | omega | assumption | exact FI_q | exact nI_10 | exact nI_20 | exact nI_30 | (simp (disch := omega) only [AI_q, AI_n, AL_q, AL_n, FI_q, FI_n, AI_ff, AI_fl, AI_la, AI_tt, FI_aa, FI_la, FI_fl, FI_tt, AL_ff, AL_aa, AL_fw, AL_tt, eW, eWc, eM, eMc, eB, eBc, eP, ePc, eD, eDc, eS, eSc, eJ, eJc, eL, eLc, eQ, eQc, eO, eOc, eA, eAc]; done) | fail) only [s37_0, s37_5, s37_9, s37_13, s37_20, s37_29, s37_51, s37_69, s262_0, s262_10, s262_18, s262_25, s262_35, s262_47, s262_59, c46_t, c46_f, c42_t, c42_f, c43_t, c43_f, c44_t, c44_f, c45_t, c45_f, c166_T, c166_F, c165_t, c165_f, c169_t, c169_f, c170_t, c170_f, c209_t, c209_f, c244_t, c244_f, H48_t, H48_f, H206_t, H206_f, HXnM, HYnM, HNnM, HOnM, aft_v, aft_n, aft_x2, z00, z10, oTr, oFa, cond_true, cond_false, nI_add, nI_mul, nI_s1, nI_clamp, inbT, oltT, oltF, oleT, oleF, oeqT, oeqF, is01_0, is01_1, AI_q, AI_n, AL_q, AL_n, FI_q, FI_n, AI_ff, AI_fl, AI_la, AI_tt, FI_aa, FI_la, FI_fl, FI_tt, AL_ff, AL_aa, AL_fw, AL_tt, eW, eWc, eM, eMc, eB, eBc, eP, ePc, eD, eDc, eS, eSc, eJ, eJc, eL, eLc, eQ, eQc, eO, eOc, eA, eAc]
  by_cases h3 : IR 0 40 a3
  case neg =>
    refine opE_of hI0 1 2 (.int (nI 0)) ⟨_, rfl⟩ (by decide) rfl (by decide) (fun d => ?_) (fun d => ?_)
    · simp (disch := first | omega | assumption | exact FI_q | exact nI_10 | exact nI_20 | exact nI_30 | (simp (disch := omega) only [AI_q, AI_n, AL_q, AL_n, FI_q, FI_n, AI_ff, AI_fl, AI_la, AI_tt, FI_aa, FI_la, FI_fl, FI_tt, AL_ff, AL_aa, AL_fw, AL_tt, eW, eWc, eM, eMc, eB, eBc, eP, ePc, eD, eDc, eS, eSc, eJ, eJc, eL, eLc, eQ, eQc, eO, eOc, eA, eAc]; done) | fail) only [s37_0, s37_5, s37_9, s37_13, s37_20, s37_29, s37_51, s37_69, s262_0, s262_10, s262_18, s262_25, s262_35, s262_47, s262_59, c46_t, c46_f, c42_t, c42_f, c43_t, c43_f, c44_t, c44_f, c45_t, c45_f, c166_T, c166_F, c165_t, c165_f, c169_t, c169_f, c170_t, c170_f, c209_t, c209_f, c244_t, c244_f, H48_t, H48_f, H206_t, H206_f, HXnM, HYnM, HNnM, HOnM, aft_v, aft_n, aft_x2, z00, z10, oTr, oFa, cond_true, cond_false, nI_add, nI_mul, nI_s1, nI_clamp, inbT, oltT, oltF, oleT, oleF, oeqT, oeqF, is01_0, is01_1, AI_q, AI_n, AL_q, AL_n, FI_q, FI_n, AI_ff, AI_fl, AI_la, AI_tt, FI_aa, FI_la, FI_fl, FI_tt, AL_ff, AL_aa, AL_fw, AL_tt, eW, eWc, eM, eMc, eB, eBc, eP, ePc, eD, eDc, eS, eSc, eJ, eJc, eL, eLc, eQ, eQc, eO, eOc, eA, eAc]
    · simp (disch := first | omega | assumption | exact FI_q | exact nI_10 | exact nI_20 | exact nI_30 | (simp (disch := omega) only [AI_q, AI_n, AL_q, AL_n, FI_q, FI_n, AI_ff, AI_fl, AI_la, AI_tt, FI_aa, FI_la, FI_fl, FI_tt, AL_ff, AL_aa, AL_fw, AL_tt, eW, eWc, eM, eMc, eB, eBc, eP, ePc, eD, eDc, eS, eSc, eJ, eJc, eL, eLc, eQ, eQc, eO, eOc, eA, eAc]; done) | fail) only [s37_0, s37_5, s37_9, s37_13, s37_20, s37_29, s37_51, s37_69, s262_0, s262_10, s262_18, s262_25, s262_35, s262_47, s262_59, c46_t, c46_f, c42_t, c42_f, c43_t, c43_f, c44_t, c44_f, c45_t, c45_f, c166_T, c166_F, c165_t, c165_f, c169_t, c169_f, c170_t, c170_f, c209_t, c209_f, c244_t, c244_f, H48_t, H48_f, H206_t, H206_f, HXnM, HYnM, HNnM, HOnM, aft_v, aft_n, aft_x2, z00, z10, oTr, oFa, cond_true, cond_false, nI_add, nI_mul, nI_s1, nI_clamp, inbT, oltT, oltF, oleT, oleF, oeqT, oeqF, is01_0, is01_1, AI_q, AI_n, AL_q, AL_n, FI_q, FI_n, AI_ff, AI_fl, AI_la, AI_tt, FI_aa, FI_la, FI_fl, FI_tt, AL_ff, AL_aa, AL_fw, AL_tt, eW, eWc, eM, eMc, eB, eBc, eP, ePc, eD, eDc, eS, eSc, eJ, eJc, eL, eLc, eQ, eQc, eO, eOc, eA, eAc]
  by_cases h4 : IR 0 1 a4
  case neg =>
    refine opE_of hI0 1 2 (.int (nI 0)) ⟨_, rfl⟩ (by decide) rfl (by decide) (fun d => ?_) (fun d => ?_)
    · simp (disch := first | omega | assumption | exact FI_q | exact nI_10 | exact nI_20 | exact nI_30 | (simp (disch := omega) only [AI_q, AI_n, AL_q, AL_n, FI_q, FI_n, AI_ff, AI_fl, AI_la, AI_tt, FI_aa, FI_la, FI_fl, FI_tt, AL_ff, AL_aa, AL_fw, AL_tt, eW, eWc, eM, eMc, eB, eBc, eP, ePc, eD, eDc, eS, eSc, eJ, eJc, eL, eLc, eQ, eQc, eO, eOc, eA, eAc]; done) | fail) only [s37_0, s37_5, s37_9, s37_13, s37_20, s37_29, s37_51, s37_69, s262_0, s262_10, s262_18, s262_25, s262_35, s262_47, s262_59, c46_t, c46_f, c42_t, c42_f, c43_t, c43_f, c44_t, c44_f, c45_t, c45_f, c166_T, c166_F, c165_t, c165_f, c169_t, c169_f, c170_t, c170_f, c209_t, c209_f, c244_t, c244_f, H48_t, H48_f, H206_t, H206_f, HXnM, HYnM, HNnM, HOnM, aft_v, aft_n, aft_x2, z00, z10, oTr, oFa, cond_true, cond_false, nI_add, nI_mul, nI_s1, nI_clamp, inbT, oltT, oltF, oleT, oleF, oeqT, oeqF, is01_0, is01_1, AI_q, AI_n, AL_q, AL_n, FI_q, FI_n, AI_ff, AI_fl, AI_la, AI_tt, FI_aa, FI_la, FI_fl, FI_tt, AL_ff, AL_aa, AL_fw, AL_tt, eW, eWc, eM, eMc, eB, eBc, eP, ePc, eD, eDc, eS, eSc, eJ, eJc, eL, eLc, eQ, eQc, eO, eOc, eA, eAc]
    · simp (disch := first | omega | assumption | exact FI_q | exact nI_10 | exact nI_20 | exact nI_30 | (simp (disch := omega) only [AI_q, AI_n, AL_q, AL_n, FI_q, FI_n, AI_ff, AI_fl, AI_la, AI_tt, FI_aa, FI_la, FI_fl, FI_tt, AL_ff, AL_aa, AL_fw, AL_tt, eW, eWc, eM, eMc, eB, eBc, eP, ePc, eD, eDc, eS, eSc, eJ, eJc, eL, eLc, eQ, eQc, eO, eOc, eA, eAc]; done) | fail) only [s37_0, s37_5, s37_9, s37_13, s37_20, s37_29, s37_51, s37_69, s262_0, s262_10, s262_18, s262_25, s262_35, s262_47, s262_59, c46_t, c46_f, c42_t, c42_f, c43_t, c43_f, c44_t, c44_f, c45_t, c45_f, c166_T, c166_F, c165_t, c165_f, c169_t, c169_f, c170_t, c170_f, c209_t, c209_f, c244_t, c244_f, H48_t, H48_f, H206_t, H206_f, HXnM, HYnM, HNnM, HOnM, aft_v, aft_n, aft_x2, z00, z10, oTr, oFa, cond_true, cond_false, nI_add, nI_mul, nI_s1, nI_clamp, inbT, oltT, oltF, oleT, oleF, oeqT, oeqF, is01_0, is01_1, AI_q, AI_n, AL_q, AL_n, FI_q, FI_n, AI_ff, AI_fl, AI_la, AI_tt, FI_aa, FI_la, FI_fl, FI_tt, AL_ff, AL_aa, AL_fw, AL_tt, eW, eWc, eM, eMc, eB, eBc, eP, ePc, eD, eDc, eS, eSc, eJ, eJc, eL, eLc, eQ, eQc, eO, eOc, eA, eAc]
  obtain ⟨m, hm, rfl⟩ := id h1
  obtain ⟨s, -, hs, rfl⟩ := id h2
  obtain ⟨y, -, hy, rfl⟩ := id h3
  obtain ⟨w, -, hw, rfl⟩ := id h4
  have hMM : IM σ := hI0.2.2.2.2.2.2.2.1
  have hOO : IO_ σ := hI0.2.2.2.2.2.1
  have hw2 : w = 0 ∨ w = 1 := by omega
  rcases hw2 with rfl | rfl
  · skip
    refine opQ_of hI0 (.int (if spN σ 143 m s y nA = 0 then (-1 : Int32) else nI (frN σ m s y nA nL))) ⟨_, rfl⟩ (fun d => ?_) (fun σ1 z e ho => ?_)
    · have lA := (ao_e (y := y) hOO eLc hL (show s < 5 by omega) (Nat.le_refl _)).2
      obtain ⟨τ, o1, oA, r1⟩ := c158 (d := d + 39) (y := y) (m := m) (s := s) (A := aoN σ s y nL) (by omega) hMM eAc eA hA (by omega) (by omega) lA
      refine ⟨τ, o1, ?_⟩
      have k1 := c108 (d := d + 39) (s := s) (y := y) (by omega) hOO eLc hL (by omega)
      simp (disch := first | omega | assumption | exact FI_q | exact nI_10 | exact nI_20 | exact nI_30 | (simp (disch := omega) only [AI_q, AI_n, AL_q, AL_n, FI_q, FI_n, AI_ff, AI_fl, AI_la, AI_tt, FI_aa, FI_la, FI_fl, FI_tt, AL_ff, AL_aa, AL_fw, AL_tt, eW, eWc, eM, eMc, eB, eBc, eP, ePc, eD, eDc, eS, eSc, eJ, eJc, eL, eLc, eQ, eQc, eO, eOc, eA, eAc]; done) | fail) only [s37_0, s37_5, s37_9, s37_13, s37_20, s37_29, s37_51, s37_69, s262_0, s262_10, s262_18, s262_25, s262_35, s262_47, s262_59, c46_t, c46_f, c42_t, c42_f, c43_t, c43_f, c44_t, c44_f, c45_t, c45_f, c166_T, c166_F, c165_t, c165_f, c169_t, c169_f, c170_t, c170_f, c209_t, c209_f, c244_t, c244_f, H48_t, H48_f, H206_t, H206_f, HXnM, HYnM, HNnM, HOnM, aft_v, aft_n, aft_x2, z00, z10, oTr, oFa, cond_true, cond_false, nI_add, nI_mul, nI_s1, nI_clamp, inbT, oltT, oltF, oleT, oleF, oeqT, oeqF, is01_0, is01_1, AI_q, AI_n, AL_q, AL_n, FI_q, FI_n, AI_ff, AI_fl, AI_la, AI_tt, FI_aa, FI_la, FI_fl, FI_tt, AL_ff, AL_aa, AL_fw, AL_tt, eW, eWc, eM, eMc, eB, eBc, eP, ePc, eD, eDc, eS, eSc, eJ, eJc, eL, eLc, eQ, eQc, eO, eOc, eA, eAc, k1, r1]
      rfl
    · skip
      have hI1 : Inv (wFI (wAL σ1 145 0 z) 85 0 (nI 0)) := Inv_tn (Inv_o (Inv_off ho hI0))
      have hMz : IM (wFI (wAL σ1 145 0 z) 85 0 (nI 0)) := hI1.2.2.2.2.2.2.2.1
      have hOz' : IO_ (wFI (wAL σ1 145 0 z) 85 0 (nI 0)) := hI1.2.2.2.2.2.1
      have hLz : FI (wFI (wAL σ1 145 0 z) 85 0 (nI 0)) 60 0 = nI nL := (offF ho 60 0 rfl).trans eLc
      have hAz : FI (wFI (wAL σ1 145 0 z) 85 0 (nI 0)) 85 85 = nI nA := (offF ho 85 85 rfl).trans eA
      have eW1 := (offF ho 85 1 rfl).trans eW
      have eM1 := (offF ho 85 29 rfl).trans eM
      have eB1 := (offF ho 85 2 rfl).trans eB
      have eP1 := (offF ho 85 30 rfl).trans eP
      have eD1 := (offF ho 85 39 rfl).trans eD
      have eS1 := (offF ho 85 52 rfl).trans eS
      have eJ1 := (offF ho 85 53 rfl).trans eJ
      have eL1 := (offF ho 85 62 rfl).trans eL
      have eQ1 := (offF ho 85 63 rfl).trans eQ
      have eO1 := (offF ho 85 75 rfl).trans eO
      have eA1 := (offF ho 85 85 rfl).trans eA
      have r1 := c261 (σ := wFI (wAL σ1 145 0 z) 85 0 (nI 0)) (d := e + 39) (m := m) (s := s) (y := y) (nA := nA) (nL := nL) (by omega) hMz hOz' hLz hL hAz hA (by omega)
      rw [spN_z, frN_z, toN_z, spN_off ho (Or.inl rfl), frN_off ho, toN_off ho] at r1
      by_cases q : spN σ 143 m s y nA = 0
      · rw [if_pos q, if_pos q] at r1
        rw [if_pos q]
        refine ⟨_, off_r, ?_⟩
        simp (disch := first | omega | assumption | exact FI_q | exact nI_10 | exact nI_20 | exact nI_30 | (simp (disch := omega) only [AI_q, AI_n, AL_q, AL_n, FI_q, FI_n, AI_ff, AI_fl, AI_la, AI_tt, FI_aa, FI_la, FI_fl, FI_tt, AL_ff, AL_aa, AL_fw, AL_tt, eW1, eM1, eB1, eP1, eD1, eS1, eJ1, eL1, eQ1, eO1, eA1]; done) | fail) only [s37_0, s37_5, s37_9, s37_13, s37_20, s37_29, s37_51, s37_69, s262_0, s262_10, s262_18, s262_25, s262_35, s262_47, s262_59, c46_t, c46_f, c42_t, c42_f, c43_t, c43_f, c44_t, c44_f, c45_t, c45_f, c166_T, c166_F, c165_t, c165_f, c169_t, c169_f, c170_t, c170_f, c209_t, c209_f, c244_t, c244_f, H48_t, H48_f, H206_t, H206_f, HXnM, HYnM, HNnM, HOnM, aft_v, aft_n, aft_x2, z00, z10, oTr, oFa, cond_true, cond_false, nI_add, nI_mul, nI_s1, nI_clamp, inbT, oltT, oltF, oleT, oleF, oeqT, oeqF, is01_0, is01_1, AI_q, AI_n, AL_q, AL_n, FI_q, FI_n, AI_ff, AI_fl, AI_la, AI_tt, FI_aa, FI_la, FI_fl, FI_tt, AL_ff, AL_aa, AL_fw, AL_tt, eW, eWc, eM, eMc, eB, eBc, eP, ePc, eD, eDc, eS, eSc, eJ, eJc, eL, eLc, eQ, eQc, eO, eOc, eA, eAc, eW1, eM1, eB1, eP1, eD1, eS1, eJ1, eL1, eQ1, eO1, eA1, r1]
      · rw [if_neg q, if_neg q] at r1
        rw [if_neg q]
        refine ⟨wFL (wFL (wFI (wAL σ1 145 0 z) 85 0 (nI 0)) 85 91 (lN (frN σ m s y nA nL))) 85 92 (lN (toN σ m s y nA nL)), off_fl (off_fl off_r rfl) rfl, ?_⟩
        simp (disch := first | omega | assumption | exact FI_q | exact nI_10 | exact nI_20 | exact nI_30 | (simp (disch := omega) only [AI_q, AI_n, AL_q, AL_n, FI_q, FI_n, AI_ff, AI_fl, AI_la, AI_tt, FI_aa, FI_la, FI_fl, FI_tt, AL_ff, AL_aa, AL_fw, AL_tt, eW1, eM1, eB1, eP1, eD1, eS1, eJ1, eL1, eQ1, eO1, eA1]; done) | fail) only [s37_0, s37_5, s37_9, s37_13, s37_20, s37_29, s37_51, s37_69, s262_0, s262_10, s262_18, s262_25, s262_35, s262_47, s262_59, c46_t, c46_f, c42_t, c42_f, c43_t, c43_f, c44_t, c44_f, c45_t, c45_f, c166_T, c166_F, c165_t, c165_f, c169_t, c169_f, c170_t, c170_f, c209_t, c209_f, c244_t, c244_f, H48_t, H48_f, H206_t, H206_f, HXnM, HYnM, HNnM, HOnM, aft_v, aft_n, aft_x2, z00, z10, oTr, oFa, cond_true, cond_false, nI_add, nI_mul, nI_s1, nI_clamp, inbT, oltT, oltF, oleT, oleF, oeqT, oeqF, is01_0, is01_1, AI_q, AI_n, AL_q, AL_n, FI_q, FI_n, AI_ff, AI_fl, AI_la, AI_tt, FI_aa, FI_la, FI_fl, FI_tt, AL_ff, AL_aa, AL_fw, AL_tt, eW, eWc, eM, eMc, eB, eBc, eP, ePc, eD, eDc, eS, eSc, eJ, eJc, eL, eLc, eQ, eQc, eO, eOc, eA, eAc, eW1, eM1, eB1, eP1, eD1, eS1, eJ1, eL1, eQ1, eO1, eA1, r1, FL_q, FL_n, lN_i]
  · skip
    refine opQ_of hI0 (.int (if spN σ 143 m s y nA = 0 then (-1 : Int32) else nI (toN σ m s y nA nL))) ⟨_, rfl⟩ (fun d => ?_) (fun σ1 z e ho => ?_)
    · have lA := (ao_e (y := y) hOO eLc hL (show s < 5 by omega) (Nat.le_refl _)).2
      obtain ⟨τ, o1, oA, r1⟩ := c159 (d := d + 39) (y := y) (m := m) (s := s) (A := aoN σ s y nL) (by omega) hMM eAc eA hA (by omega) (by omega) lA
      refine ⟨τ, o1, ?_⟩
      have k1 := c108 (d := d + 39) (s := s) (y := y) (by omega) hOO eLc hL (by omega)
      simp (disch := first | omega | assumption | exact FI_q | exact nI_10 | exact nI_20 | exact nI_30 | (simp (disch := omega) only [AI_q, AI_n, AL_q, AL_n, FI_q, FI_n, AI_ff, AI_fl, AI_la, AI_tt, FI_aa, FI_la, FI_fl, FI_tt, AL_ff, AL_aa, AL_fw, AL_tt, eW, eWc, eM, eMc, eB, eBc, eP, ePc, eD, eDc, eS, eSc, eJ, eJc, eL, eLc, eQ, eQc, eO, eOc, eA, eAc]; done) | fail) only [s37_0, s37_5, s37_9, s37_13, s37_20, s37_29, s37_51, s37_69, s262_0, s262_10, s262_18, s262_25, s262_35, s262_47, s262_59, c46_t, c46_f, c42_t, c42_f, c43_t, c43_f, c44_t, c44_f, c45_t, c45_f, c166_T, c166_F, c165_t, c165_f, c169_t, c169_f, c170_t, c170_f, c209_t, c209_f, c244_t, c244_f, H48_t, H48_f, H206_t, H206_f, HXnM, HYnM, HNnM, HOnM, aft_v, aft_n, aft_x2, z00, z10, oTr, oFa, cond_true, cond_false, nI_add, nI_mul, nI_s1, nI_clamp, inbT, oltT, oltF, oleT, oleF, oeqT, oeqF, is01_0, is01_1, AI_q, AI_n, AL_q, AL_n, FI_q, FI_n, AI_ff, AI_fl, AI_la, AI_tt, FI_aa, FI_la, FI_fl, FI_tt, AL_ff, AL_aa, AL_fw, AL_tt, eW, eWc, eM, eMc, eB, eBc, eP, ePc, eD, eDc, eS, eSc, eJ, eJc, eL, eLc, eQ, eQc, eO, eOc, eA, eAc, k1, r1]
      rfl
    · skip
      have hI1 : Inv (wFI (wAL σ1 145 0 z) 85 0 (nI 0)) := Inv_tn (Inv_o (Inv_off ho hI0))
      have hMz : IM (wFI (wAL σ1 145 0 z) 85 0 (nI 0)) := hI1.2.2.2.2.2.2.2.1
      have hOz' : IO_ (wFI (wAL σ1 145 0 z) 85 0 (nI 0)) := hI1.2.2.2.2.2.1
      have hLz : FI (wFI (wAL σ1 145 0 z) 85 0 (nI 0)) 60 0 = nI nL := (offF ho 60 0 rfl).trans eLc
      have hAz : FI (wFI (wAL σ1 145 0 z) 85 0 (nI 0)) 85 85 = nI nA := (offF ho 85 85 rfl).trans eA
      have eW1 := (offF ho 85 1 rfl).trans eW
      have eM1 := (offF ho 85 29 rfl).trans eM
      have eB1 := (offF ho 85 2 rfl).trans eB
      have eP1 := (offF ho 85 30 rfl).trans eP
      have eD1 := (offF ho 85 39 rfl).trans eD
      have eS1 := (offF ho 85 52 rfl).trans eS
      have eJ1 := (offF ho 85 53 rfl).trans eJ
      have eL1 := (offF ho 85 62 rfl).trans eL
      have eQ1 := (offF ho 85 63 rfl).trans eQ
      have eO1 := (offF ho 85 75 rfl).trans eO
      have eA1 := (offF ho 85 85 rfl).trans eA
      have r1 := c261 (σ := wFI (wAL σ1 145 0 z) 85 0 (nI 0)) (d := e + 39) (m := m) (s := s) (y := y) (nA := nA) (nL := nL) (by omega) hMz hOz' hLz hL hAz hA (by omega)
      rw [spN_z, frN_z, toN_z, spN_off ho (Or.inl rfl), frN_off ho, toN_off ho] at r1
      by_cases q : spN σ 143 m s y nA = 0
      · rw [if_pos q, if_pos q] at r1
        rw [if_pos q]
        refine ⟨_, off_r, ?_⟩
        simp (disch := first | omega | assumption | exact FI_q | exact nI_10 | exact nI_20 | exact nI_30 | (simp (disch := omega) only [AI_q, AI_n, AL_q, AL_n, FI_q, FI_n, AI_ff, AI_fl, AI_la, AI_tt, FI_aa, FI_la, FI_fl, FI_tt, AL_ff, AL_aa, AL_fw, AL_tt, eW1, eM1, eB1, eP1, eD1, eS1, eJ1, eL1, eQ1, eO1, eA1]; done) | fail) only [s37_0, s37_5, s37_9, s37_13, s37_20, s37_29, s37_51, s37_69, s262_0, s262_10, s262_18, s262_25, s262_35, s262_47, s262_59, c46_t, c46_f, c42_t, c42_f, c43_t, c43_f, c44_t, c44_f, c45_t, c45_f, c166_T, c166_F, c165_t, c165_f, c169_t, c169_f, c170_t, c170_f, c209_t, c209_f, c244_t, c244_f, H48_t, H48_f, H206_t, H206_f, HXnM, HYnM, HNnM, HOnM, aft_v, aft_n, aft_x2, z00, z10, oTr, oFa, cond_true, cond_false, nI_add, nI_mul, nI_s1, nI_clamp, inbT, oltT, oltF, oleT, oleF, oeqT, oeqF, is01_0, is01_1, AI_q, AI_n, AL_q, AL_n, FI_q, FI_n, AI_ff, AI_fl, AI_la, AI_tt, FI_aa, FI_la, FI_fl, FI_tt, AL_ff, AL_aa, AL_fw, AL_tt, eW, eWc, eM, eMc, eB, eBc, eP, ePc, eD, eDc, eS, eSc, eJ, eJc, eL, eLc, eQ, eQc, eO, eOc, eA, eAc, eW1, eM1, eB1, eP1, eD1, eS1, eJ1, eL1, eQ1, eO1, eA1, r1]
      · rw [if_neg q, if_neg q] at r1
        rw [if_neg q]
        refine ⟨wFL (wFL (wFI (wAL σ1 145 0 z) 85 0 (nI 0)) 85 91 (lN (frN σ m s y nA nL))) 85 92 (lN (toN σ m s y nA nL)), off_fl (off_fl off_r rfl) rfl, ?_⟩
        simp (disch := first | omega | assumption | exact FI_q | exact nI_10 | exact nI_20 | exact nI_30 | (simp (disch := omega) only [AI_q, AI_n, AL_q, AL_n, FI_q, FI_n, AI_ff, AI_fl, AI_la, AI_tt, FI_aa, FI_la, FI_fl, FI_tt, AL_ff, AL_aa, AL_fw, AL_tt, eW1, eM1, eB1, eP1, eD1, eS1, eJ1, eL1, eQ1, eO1, eA1]; done) | fail) only [s37_0, s37_5, s37_9, s37_13, s37_20, s37_29, s37_51, s37_69, s262_0, s262_10, s262_18, s262_25, s262_35, s262_47, s262_59, c46_t, c46_f, c42_t, c42_f, c43_t, c43_f, c44_t, c44_f, c45_t, c45_f, c166_T, c166_F, c165_t, c165_f, c169_t, c169_f, c170_t, c170_f, c209_t, c209_f, c244_t, c244_f, H48_t, H48_f, H206_t, H206_f, HXnM, HYnM, HNnM, HOnM, aft_v, aft_n, aft_x2, z00, z10, oTr, oFa, cond_true, cond_false, nI_add, nI_mul, nI_s1, nI_clamp, inbT, oltT, oltF, oleT, oleF, oeqT, oeqF, is01_0, is01_1, AI_q, AI_n, AL_q, AL_n, FI_q, FI_n, AI_ff, AI_fl, AI_la, AI_tt, FI_aa, FI_la, FI_fl, FI_tt, AL_ff, AL_aa, AL_fw, AL_tt, eW, eWc, eM, eMc, eB, eBc, eP, ePc, eD, eDc, eS, eSc, eJ, eJc, eL, eLc, eQ, eQc, eO, eOc, eA, eAc, eW1, eM1, eB1, eP1, eD1, eS1, eJ1, eL1, eQ1, eO1, eA1, r1, FL_q, FL_n, lN_i]

set_option maxHeartbeats 8000000 in
theorem op_shy {σ : PS} (hI : Inv σ) (a1 a2 a3 : Int32) : Op (fun d σ => Run false d 38 0 [some (.ref 0), some (.int a1), some (.int a2), some (.int a3)] [] σ) (fun d σ => Run false d 264 0 [some (.ref 85), some (.int a1), some (.int a2), some (.int a3)] [] σ) σ isI (fun E => if E = 4 then 1 else if E = 1 then 2 else 0) := by
  have hI0 := hI
  obtain ⟨⟨⟨nW, hW, eW, eWc⟩, ⟨nM, hM, eM, eMc⟩, eTr, eIs⟩, ⟨⟨nB, hB, eB, eBc, hBy⟩, eFa, eC10⟩, ⟨⟨nP, hP, eP, ePc, hTr⟩, hPk, hSo, hGr, hCo⟩, ⟨nD, hD, eD, eDc, hDe⟩, ⟨⟨nS, hS, eS, eSc⟩, ⟨nJ, hJ, eJ, eJc, hJo⟩, hPa⟩, ⟨nL, nQ, hL, hQ, eL, eLc, eQ, eQc, hLo, hNo, eFg⟩, ⟨nO, hO, eO, eOc, hOf, hOz⟩, ⟨nA, hA, eA, eAc, hSa⟩, ⟨hBi, hOr⟩, LS, hIL⟩ := hI
  have H48_t := fun (d : Nat) (σ : PS) (a : Int32) => @c48_t d σ a nM
  have H48_f := fun (d : Nat) (σ : PS) (a : Int32) => @c48_f d σ a nM
  have H206_t := fun (d : Nat) (σ : PS) (a : Int32) => @c206_t d σ a nM
  have H206_f := fun (d : Nat) (σ : PS) (a : Int32) => @c206_f d σ a nM
  have HXnM := fun (d : Nat) (σ : PS) (a : Int32) => @c166_X d σ a nM
  have HYnM := fun (d : Nat) (σ : PS) (a : Int32) => @c166_Y d σ a nM
  have HNnM := fun (d : Nat) (σ : PS) (a : Int32) => @c166_N d σ a nM
  have HOnM := fun (d : Nat) (σ : PS) (a : Int32) => @c166_M d σ a nM
  by_cases h1 : IX nM a1
  case neg =>
    refine opE_of hI0 4 1 (.int (nI 0)) ⟨_, rfl⟩ (by decide) rfl (by decide) (fun d => ?_) (fun d => ?_)
    · simp (disch := first | omega | assumption | exact FI_q | exact nI_10 | exact nI_20 | exact nI_30 | (simp (disch := omega) only [AI_q, AI_n, AL_q, AL_n, FI_q, FI_n, AI_ff, AI_fl, AI_la, AI_tt, FI_aa, FI_la, FI_fl, FI_tt, AL_ff, AL_aa, AL_fw, AL_tt, eW, eWc, eM, eMc, eB, eBc, eP, ePc, eD, eDc, eS, eSc, eJ, eJc, eL, eLc, eQ, eQc, eO, eOc, eA, eAc]; done) | fail) only [s38_0, s38_5, s38_9, s38_13, s38_22, s38_29, s264_0, s264_10, s264_18, s264_25, s264_37, s264_49, c46_t, c46_f, c42_t, c42_f, c43_t, c43_f, c44_t, c44_f, c45_t, c45_f, c166_T, c166_F, c165_t, c165_f, c169_t, c169_f, c170_t, c170_f, c209_t, c209_f, c244_t, c244_f, H48_t, H48_f, H206_t, H206_f, HXnM, HYnM, HNnM, HOnM, aft_v, aft_n, aft_x2, z00, z10, oTr, oFa, cond_true, cond_false, nI_add, nI_mul, nI_s1, nI_clamp, inbT, oltT, oltF, oleT, oleF, oeqT, oeqF, is01_0, is01_1, AI_q, AI_n, AL_q, AL_n, FI_q, FI_n, AI_ff, AI_fl, AI_la, AI_tt, FI_aa, FI_la, FI_fl, FI_tt, AL_ff, AL_aa, AL_fw, AL_tt, eW, eWc, eM, eMc, eB, eBc, eP, ePc, eD, eDc, eS, eSc, eJ, eJc, eL, eLc, eQ, eQc, eO, eOc, eA, eAc]
    · simp (disch := first | omega | assumption | exact FI_q | exact nI_10 | exact nI_20 | exact nI_30 | (simp (disch := omega) only [AI_q, AI_n, AL_q, AL_n, FI_q, FI_n, AI_ff, AI_fl, AI_la, AI_tt, FI_aa, FI_la, FI_fl, FI_tt, AL_ff, AL_aa, AL_fw, AL_tt, eW, eWc, eM, eMc, eB, eBc, eP, ePc, eD, eDc, eS, eSc, eJ, eJc, eL, eLc, eQ, eQc, eO, eOc, eA, eAc]; done) | fail) only [s38_0, s38_5, s38_9, s38_13, s38_22, s38_29, s264_0, s264_10, s264_18, s264_25, s264_37, s264_49, c46_t, c46_f, c42_t, c42_f, c43_t, c43_f, c44_t, c44_f, c45_t, c45_f, c166_T, c166_F, c165_t, c165_f, c169_t, c169_f, c170_t, c170_f, c209_t, c209_f, c244_t, c244_f, H48_t, H48_f, H206_t, H206_f, HXnM, HYnM, HNnM, HOnM, aft_v, aft_n, aft_x2, z00, z10, oTr, oFa, cond_true, cond_false, nI_add, nI_mul, nI_s1, nI_clamp, inbT, oltT, oltF, oleT, oleF, oeqT, oeqF, is01_0, is01_1, AI_q, AI_n, AL_q, AL_n, FI_q, FI_n, AI_ff, AI_fl, AI_la, AI_tt, FI_aa, FI_la, FI_fl, FI_tt, AL_ff, AL_aa, AL_fw, AL_tt, eW, eWc, eM, eMc, eB, eBc, eP, ePc, eD, eDc, eS, eSc, eJ, eJc, eL, eLc, eQ, eQc, eO, eOc, eA, eAc]
  by_cases h2 : IR 0 4 a2
  case neg =>
    refine opE_of hI0 1 2 (.int (nI 0)) ⟨_, rfl⟩ (by decide) rfl (by decide) (fun d => ?_) (fun d => ?_)
    · simp (disch := first | omega | assumption | exact FI_q | exact nI_10 | exact nI_20 | exact nI_30 | (simp (disch := omega) only [AI_q, AI_n, AL_q, AL_n, FI_q, FI_n, AI_ff, AI_fl, AI_la, AI_tt, FI_aa, FI_la, FI_fl, FI_tt, AL_ff, AL_aa, AL_fw, AL_tt, eW, eWc, eM, eMc, eB, eBc, eP, ePc, eD, eDc, eS, eSc, eJ, eJc, eL, eLc, eQ, eQc, eO, eOc, eA, eAc]; done) | fail) only [s38_0, s38_5, s38_9, s38_13, s38_22, s38_29, s264_0, s264_10, s264_18, s264_25, s264_37, s264_49, c46_t, c46_f, c42_t, c42_f, c43_t, c43_f, c44_t, c44_f, c45_t, c45_f, c166_T, c166_F, c165_t, c165_f, c169_t, c169_f, c170_t, c170_f, c209_t, c209_f, c244_t, c244_f, H48_t, H48_f, H206_t, H206_f, HXnM, HYnM, HNnM, HOnM, aft_v, aft_n, aft_x2, z00, z10, oTr, oFa, cond_true, cond_false, nI_add, nI_mul, nI_s1, nI_clamp, inbT, oltT, oltF, oleT, oleF, oeqT, oeqF, is01_0, is01_1, AI_q, AI_n, AL_q, AL_n, FI_q, FI_n, AI_ff, AI_fl, AI_la, AI_tt, FI_aa, FI_la, FI_fl, FI_tt, AL_ff, AL_aa, AL_fw, AL_tt, eW, eWc, eM, eMc, eB, eBc, eP, ePc, eD, eDc, eS, eSc, eJ, eJc, eL, eLc, eQ, eQc, eO, eOc, eA, eAc]
    · simp (disch := first | omega | assumption | exact FI_q | exact nI_10 | exact nI_20 | exact nI_30 | (simp (disch := omega) only [AI_q, AI_n, AL_q, AL_n, FI_q, FI_n, AI_ff, AI_fl, AI_la, AI_tt, FI_aa, FI_la, FI_fl, FI_tt, AL_ff, AL_aa, AL_fw, AL_tt, eW, eWc, eM, eMc, eB, eBc, eP, ePc, eD, eDc, eS, eSc, eJ, eJc, eL, eLc, eQ, eQc, eO, eOc, eA, eAc]; done) | fail) only [s38_0, s38_5, s38_9, s38_13, s38_22, s38_29, s264_0, s264_10, s264_18, s264_25, s264_37, s264_49, c46_t, c46_f, c42_t, c42_f, c43_t, c43_f, c44_t, c44_f, c45_t, c45_f, c166_T, c166_F, c165_t, c165_f, c169_t, c169_f, c170_t, c170_f, c209_t, c209_f, c244_t, c244_f, H48_t, H48_f, H206_t, H206_f, HXnM, HYnM, HNnM, HOnM, aft_v, aft_n, aft_x2, z00, z10, oTr, oFa, cond_true, cond_false, nI_add, nI_mul, nI_s1, nI_clamp, inbT, oltT, oltF, oleT, oleF, oeqT, oeqF, is01_0, is01_1, AI_q, AI_n, AL_q, AL_n, FI_q, FI_n, AI_ff, AI_fl, AI_la, AI_tt, FI_aa, FI_la, FI_fl, FI_tt, AL_ff, AL_aa, AL_fw, AL_tt, eW, eWc, eM, eMc, eB, eBc, eP, ePc, eD, eDc, eS, eSc, eJ, eJc, eL, eLc, eQ, eQc, eO, eOc, eA, eAc]
  by_cases h3 : IR 0 40 a3
  case neg =>
    refine opE_of hI0 1 2 (.int (nI 0)) ⟨_, rfl⟩ (by decide) rfl (by decide) (fun d => ?_) (fun d => ?_)
    · simp (disch := first | omega | assumption | exact FI_q | exact nI_10 | exact nI_20 | exact nI_30 | (simp (disch := omega) only [AI_q, AI_n, AL_q, AL_n, FI_q, FI_n, AI_ff, AI_fl, AI_la, AI_tt, FI_aa, FI_la, FI_fl, FI_tt, AL_ff, AL_aa, AL_fw, AL_tt, eW, eWc, eM, eMc, eB, eBc, eP, ePc, eD, eDc, eS, eSc, eJ, eJc, eL, eLc, eQ, eQc, eO, eOc, eA, eAc]; done) | fail) only [s38_0, s38_5, s38_9, s38_13, s38_22, s38_29, s264_0, s264_10, s264_18, s264_25, s264_37, s264_49, c46_t, c46_f, c42_t, c42_f, c43_t, c43_f, c44_t, c44_f, c45_t, c45_f, c166_T, c166_F, c165_t, c165_f, c169_t, c169_f, c170_t, c170_f, c209_t, c209_f, c244_t, c244_f, H48_t, H48_f, H206_t, H206_f, HXnM, HYnM, HNnM, HOnM, aft_v, aft_n, aft_x2, z00, z10, oTr, oFa, cond_true, cond_false, nI_add, nI_mul, nI_s1, nI_clamp, inbT, oltT, oltF, oleT, oleF, oeqT, oeqF, is01_0, is01_1, AI_q, AI_n, AL_q, AL_n, FI_q, FI_n, AI_ff, AI_fl, AI_la, AI_tt, FI_aa, FI_la, FI_fl, FI_tt, AL_ff, AL_aa, AL_fw, AL_tt, eW, eWc, eM, eMc, eB, eBc, eP, ePc, eD, eDc, eS, eSc, eJ, eJc, eL, eLc, eQ, eQc, eO, eOc, eA, eAc]
    · simp (disch := first | omega | assumption | exact FI_q | exact nI_10 | exact nI_20 | exact nI_30 | (simp (disch := omega) only [AI_q, AI_n, AL_q, AL_n, FI_q, FI_n, AI_ff, AI_fl, AI_la, AI_tt, FI_aa, FI_la, FI_fl, FI_tt, AL_ff, AL_aa, AL_fw, AL_tt, eW, eWc, eM, eMc, eB, eBc, eP, ePc, eD, eDc, eS, eSc, eJ, eJc, eL, eLc, eQ, eQc, eO, eOc, eA, eAc]; done) | fail) only [s38_0, s38_5, s38_9, s38_13, s38_22, s38_29, s264_0, s264_10, s264_18, s264_25, s264_37, s264_49, c46_t, c46_f, c42_t, c42_f, c43_t, c43_f, c44_t, c44_f, c45_t, c45_f, c166_T, c166_F, c165_t, c165_f, c169_t, c169_f, c170_t, c170_f, c209_t, c209_f, c244_t, c244_f, H48_t, H48_f, H206_t, H206_f, HXnM, HYnM, HNnM, HOnM, aft_v, aft_n, aft_x2, z00, z10, oTr, oFa, cond_true, cond_false, nI_add, nI_mul, nI_s1, nI_clamp, inbT, oltT, oltF, oleT, oleF, oeqT, oeqF, is01_0, is01_1, AI_q, AI_n, AL_q, AL_n, FI_q, FI_n, AI_ff, AI_fl, AI_la, AI_tt, FI_aa, FI_la, FI_fl, FI_tt, AL_ff, AL_aa, AL_fw, AL_tt, eW, eWc, eM, eMc, eB, eBc, eP, ePc, eD, eDc, eS, eSc, eJ, eJc, eL, eLc, eQ, eQc, eO, eOc, eA, eAc]
  obtain ⟨m, hm, rfl⟩ := id h1
  obtain ⟨s, -, hs, rfl⟩ := id h2
  obtain ⟨y, -, hy, rfl⟩ := id h3
  have hC := IL_C hIL
  have hM' := IL_M hIL eIs
  have hPP : IP σ := hI0.2.2.1
  have hD' : ID σ := hI0.2.2.2.1
  have hS : IS σ := hI0.2.2.2.2.1
  have hMM : IM σ := hI0.2.2.2.2.2.2.2.1
  have hOO : IO_ σ := hI0.2.2.2.2.2.1
  have hdb : ∀ m s, dcN σ y (nI nW) nD m s ≤ 10000000 := fun m s => (dcN_e hD' eD hD).2
  refine opQ_of hI0 (.int (nI (shN σ m s y nA nL (dcN σ y (nI nW) nD m s)))) ⟨_, rfl⟩ (fun d => ?_) (fun σ1 z e ho => ?_)
  · obtain ⟨τ, o1, ⟨-, v1⟩, r1⟩ := c55 (d := d + 39) (k := nI nW) (by omega) hy hC hD' eDc hD hS eJc hJ eMc hM
    have hIt := Inv_off o1 hI0
    obtain ⟨τ', o2, -, r2⟩ := c69 (σ := τ) (d := d + 39) (m := m) (s := s) (y := y) (nA := nA) (nL := nL) (dec := dcN σ y (nI nW) nD) (by omega) hIt.2.2.2.2.2.2.2.1 hIt.2.2.2.2.2.1 ((offF o1 78 0 rfl).trans eAc) ((offF o1 85 85 rfl).trans eA) hA ((offF o1 60 0 rfl).trans eLc) hL (by omega) (by omega) ((v1 m hm).1 s (by omega)) (hdb m s)
    have esh : shN τ m s y nA nL (dcN σ y (nI nW) nD m s) = shN σ m s y nA nL (dcN σ y (nI nW) nD m s) := by
      unfold shN
      rw [spN_off o1 (Or.inl rfl), frN_off o1]
    rw [esh] at r2
    refine ⟨τ', off_t o1 o2, ?_⟩
    simp (disch := first | omega | assumption | exact FI_q | exact nI_10 | exact nI_20 | exact nI_30 | (simp (disch := omega) only [AI_q, AI_n, AL_q, AL_n, FI_q, FI_n, AI_ff, AI_fl, AI_la, AI_tt, FI_aa, FI_la, FI_fl, FI_tt, AL_ff, AL_aa, AL_fw, AL_tt, eW, eWc, eM, eMc, eB, eBc, eP, ePc, eD, eDc, eS, eSc, eJ, eJc, eL, eLc, eQ, eQc, eO, eOc, eA, eAc]; done) | fail) only [s38_0, s38_5, s38_9, s38_13, s38_22, s38_29, s264_0, s264_10, s264_18, s264_25, s264_37, s264_49, c46_t, c46_f, c42_t, c42_f, c43_t, c43_f, c44_t, c44_f, c45_t, c45_f, c166_T, c166_F, c165_t, c165_f, c169_t, c169_f, c170_t, c170_f, c209_t, c209_f, c244_t, c244_f, H48_t, H48_f, H206_t, H206_f, HXnM, HYnM, HNnM, HOnM, aft_v, aft_n, aft_x2, z00, z10, oTr, oFa, cond_true, cond_false, nI_add, nI_mul, nI_s1, nI_clamp, inbT, oltT, oltF, oleT, oleF, oeqT, oeqF, is01_0, is01_1, AI_q, AI_n, AL_q, AL_n, FI_q, FI_n, AI_ff, AI_fl, AI_la, AI_tt, FI_aa, FI_la, FI_fl, FI_tt, AL_ff, AL_aa, AL_fw, AL_tt, eW, eWc, eM, eMc, eB, eBc, eP, ePc, eD, eDc, eS, eSc, eJ, eJc, eL, eLc, eQ, eQc, eO, eOc, eA, eAc, r1, r2]
  · skip
    have hI1 : Inv (wFI (wAL σ1 145 0 z) 85 0 (nI 0)) := Inv_tn (Inv_o (Inv_off ho hI0))
    have hMz : IM (wFI (wAL σ1 145 0 z) 85 0 (nI 0)) := hI1.2.2.2.2.2.2.2.1
    have hOz' : IO_ (wFI (wAL σ1 145 0 z) 85 0 (nI 0)) := hI1.2.2.2.2.2.1
    have hLz : FI (wFI (wAL σ1 145 0 z) 85 0 (nI 0)) 60 0 = nI nL := (offF ho 60 0 rfl).trans eLc
    have hAz : FI (wFI (wAL σ1 145 0 z) 85 0 (nI 0)) 85 85 = nI nA := (offF ho 85 85 rfl).trans eA
    have eW1 := (offF ho 85 1 rfl).trans eW
    have eM1 := (offF ho 85 29 rfl).trans eM
    have eB1 := (offF ho 85 2 rfl).trans eB
    have eP1 := (offF ho 85 30 rfl).trans eP
    have eD1 := (offF ho 85 39 rfl).trans eD
    have eS1 := (offF ho 85 52 rfl).trans eS
    have eJ1 := (offF ho 85 53 rfl).trans eJ
    have eL1 := (offF ho 85 62 rfl).trans eL
    have eQ1 := (offF ho 85 63 rfl).trans eQ
    have eO1 := (offF ho 85 75 rfl).trans eO
    have eA1 := (offF ho 85 85 rfl).trans eA
    have hM0 : LM LS none σ1 := LM_off ho hM'
    have hM1 : LM LS none (wFI (wAL σ1 145 0 z) 85 0 (nI 0)) := hM0
    have hD1 : ID (wFI (wAL σ1 145 0 z) 85 0 (nI 0)) := (ID_off ho hD' : ID σ1)
    have hN1 : FI (wFI (wAL σ1 145 0 z) 85 0 (nI 0)) 85 39 = nI nD := (offF ho 85 39 rfl).trans eD
    have hT1 : FI (wFI (wAL σ1 145 0 z) 85 0 (nI 0)) 85 45 = -1 := (offF ho 85 45 rfl).trans eTr
    have eDD : dcN (wFI (wAL σ1 145 0 z) 85 0 (nI 0)) y (nI nW) nD = dcN σ y (nI nW) nD := dcN_z.trans (dcN_off' ho)
    have hX := DM_no (y := y) (k := (nI nW)) hD1 hN1 hD hT1
    rw [eDD] at hX
    obtain ⟨τ, o1, r1⟩ := c263 (σ := wFI (wAL σ1 145 0 z) 85 0 (nI 0)) (d := e + 39) (m := m) (s := s) (y := y) (nA := nA) (nL := nL) (M := 10) (by omega) hMz hOz' hAz hA hLz hL (by omega) (by omega) ((offF ho 85 1 rfl).trans eW) hX
    have esh : shN (wFI (wAL σ1 145 0 z) 85 0 (nI 0)) m s y nA nL (dcN σ y (nI nW) nD m s) = shN σ m s y nA nL (dcN σ y (nI nW) nD m s) := by
      unfold shN
      rw [spN_z, frN_z, spN_off ho (Or.inl rfl), frN_off ho]
    rw [esh] at r1
    refine ⟨τ, o1, ?_⟩
    simp (disch := first | omega | assumption | exact FI_q | exact nI_10 | exact nI_20 | exact nI_30 | (simp (disch := omega) only [AI_q, AI_n, AL_q, AL_n, FI_q, FI_n, AI_ff, AI_fl, AI_la, AI_tt, FI_aa, FI_la, FI_fl, FI_tt, AL_ff, AL_aa, AL_fw, AL_tt, eW1, eM1, eB1, eP1, eD1, eS1, eJ1, eL1, eQ1, eO1, eA1]; done) | fail) only [s38_0, s38_5, s38_9, s38_13, s38_22, s38_29, s264_0, s264_10, s264_18, s264_25, s264_37, s264_49, c46_t, c46_f, c42_t, c42_f, c43_t, c43_f, c44_t, c44_f, c45_t, c45_f, c166_T, c166_F, c165_t, c165_f, c169_t, c169_f, c170_t, c170_f, c209_t, c209_f, c244_t, c244_f, H48_t, H48_f, H206_t, H206_f, HXnM, HYnM, HNnM, HOnM, aft_v, aft_n, aft_x2, z00, z10, oTr, oFa, cond_true, cond_false, nI_add, nI_mul, nI_s1, nI_clamp, inbT, oltT, oltF, oleT, oleF, oeqT, oeqF, is01_0, is01_1, AI_q, AI_n, AL_q, AL_n, FI_q, FI_n, AI_ff, AI_fl, AI_la, AI_tt, FI_aa, FI_la, FI_fl, FI_tt, AL_ff, AL_aa, AL_fw, AL_tt, eW, eWc, eM, eMc, eB, eBc, eP, ePc, eD, eDc, eS, eSc, eJ, eJc, eL, eLc, eQ, eQc, eO, eOc, eA, eAc, eW1, eM1, eB1, eP1, eD1, eS1, eJ1, eL1, eQ1, eO1, eA1, r1]
