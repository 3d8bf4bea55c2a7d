/-! printed by wip/whole/ops.py: the ops that write no more than they say -/
set_option maxHeartbeats 1000000 in
theorem op_fee {σ : PS} (hI : Inv σ) (a1 a2 a3 : Int32) : Op (fun d σ => Run false d 17 0 [some (.ref 0), some (.int a1), some (.int a2), some (.int a3)] [] σ) (fun d σ => Run false d 225 0 [some (.ref 85), some (.int a1), some (.int a2), some (.int a3)] [] σ) σ isL (fun E => if E = 4 then 1 else if E = 1 then 2 else 0) := by
  have hI0 := hI
  obtain ⟨⟨⟨nW, hW, eW, eWc⟩, ⟨nM, hM, eM, eMc⟩, eTr, eIs⟩, ⟨⟨nB, hB, eB, eBc, hBy⟩, eFa, eC10⟩, ⟨⟨nP, hP, eP, ePc, hTr⟩, hPk, hSo, hGr, hCo⟩, ⟨nD, hD, eD, eDc, hDe⟩, ⟨⟨nS, hS, eS, eSc⟩, ⟨nJ, hJ, eJ, eJc, hJo⟩, hPa⟩, ⟨nL, nQ, hL, hQ, eL, eLc, eQ, eQc, hLo, hNo, eFg⟩, ⟨nO, hO, eO, eOc, hOf, hOz⟩, ⟨nA, hA, eA, eAc, hSa⟩, ⟨hBi, hOr⟩, LS, hIL⟩ := hI
  have H48_t := fun (d : Nat) (σ : PS) (a : Int32) => @c48_t d σ a nM
  have H48_f := fun (d : Nat) (σ : PS) (a : Int32) => @c48_f d σ a nM
  have H206_t := fun (d : Nat) (σ : PS) (a : Int32) => @c206_t d σ a nM
  have H206_f := fun (d : Nat) (σ : PS) (a : Int32) => @c206_f d σ a nM
  have HXnM := fun (d : Nat) (σ : PS) (a : Int32) => @c166_X d σ a nM
  have HYnM := fun (d : Nat) (σ : PS) (a : Int32) => @c166_Y d σ a nM
  have HNnM := fun (d : Nat) (σ : PS) (a : Int32) => @c166_N d σ a nM
  have HOnM := fun (d : Nat) (σ : PS) (a : Int32) => @c166_M d σ a nM
  by_cases h1 : IX nM a1
  case neg =>
    refine opE_of hI0 4 1 (.long (lN 0)) ⟨_, rfl⟩ (by decide) rfl (by decide) (fun d => ?_) (fun d => ?_)
    · simp (disch := first | omega | assumption | exact FI_q | exact nI_10 | exact nI_20 | exact nI_30 | (simp (disch := omega) only [AI_q, AI_n, AL_q, AL_n, FI_q, FI_n, AI_ff, AI_fl, AI_la, AI_tt, FI_aa, FI_la, FI_fl, FI_tt, AL_ff, AL_aa, AL_fw, AL_tt, eW, eWc, eM, eMc, eB, eBc, eP, ePc, eD, eDc, eS, eSc, eJ, eJc, eL, eLc, eQ, eQc, eO, eOc, eA, eAc]; done) | fail) only [s17_0, s17_5, s17_9, s17_16, s225_0, s225_10, s225_18, s225_22, s225_34, c46_t, c46_f, c42_t, c42_f, c43_t, c43_f, c44_t, c44_f, c45_t, c45_f, c166_T, c166_F, c165_t, c165_f, c169_t, c169_f, c170_t, c170_f, c209_t, c209_f, c244_t, c244_f, H48_t, H48_f, H206_t, H206_f, HXnM, HYnM, HNnM, HOnM, aft_v, aft_n, aft_x2, z00, z10, oTr, oFa, cond_true, cond_false, nI_add, nI_mul, nI_s1, nI_clamp, inbT, oltT, oltF, oleT, oleF, oeqT, oeqF, is01_0, is01_1, AI_q, AI_n, AL_q, AL_n, FI_q, FI_n, AI_ff, AI_fl, AI_la, AI_tt, FI_aa, FI_la, FI_fl, FI_tt, AL_ff, AL_aa, AL_fw, AL_tt, eW, eWc, eM, eMc, eB, eBc, eP, ePc, eD, eDc, eS, eSc, eJ, eJc, eL, eLc, eQ, eQc, eO, eOc, eA, eAc]
    · simp (disch := first | omega | assumption | exact FI_q | exact nI_10 | exact nI_20 | exact nI_30 | (simp (disch := omega) only [AI_q, AI_n, AL_q, AL_n, FI_q, FI_n, AI_ff, AI_fl, AI_la, AI_tt, FI_aa, FI_la, FI_fl, FI_tt, AL_ff, AL_aa, AL_fw, AL_tt, eW, eWc, eM, eMc, eB, eBc, eP, ePc, eD, eDc, eS, eSc, eJ, eJc, eL, eLc, eQ, eQc, eO, eOc, eA, eAc]; done) | fail) only [s17_0, s17_5, s17_9, s17_16, s225_0, s225_10, s225_18, s225_22, s225_34, c46_t, c46_f, c42_t, c42_f, c43_t, c43_f, c44_t, c44_f, c45_t, c45_f, c166_T, c166_F, c165_t, c165_f, c169_t, c169_f, c170_t, c170_f, c209_t, c209_f, c244_t, c244_f, H48_t, H48_f, H206_t, H206_f, HXnM, HYnM, HNnM, HOnM, aft_v, aft_n, aft_x2, z00, z10, oTr, oFa, cond_true, cond_false, nI_add, nI_mul, nI_s1, nI_clamp, inbT, oltT, oltF, oleT, oleF, oeqT, oeqF, is01_0, is01_1, AI_q, AI_n, AL_q, AL_n, FI_q, FI_n, AI_ff, AI_fl, AI_la, AI_tt, FI_aa, FI_la, FI_fl, FI_tt, AL_ff, AL_aa, AL_fw, AL_tt, eW, eWc, eM, eMc, eB, eBc, eP, ePc, eD, eDc, eS, eSc, eJ, eJc, eL, eLc, eQ, eQc, eO, eOc, eA, eAc]
  by_cases h2 : IR 0 40 a2
  case neg =>
    refine opE_of hI0 1 2 (.long (lN 0)) ⟨_, rfl⟩ (by decide) rfl (by decide) (fun d => ?_) (fun d => ?_)
    · simp (disch := first | omega | assumption | exact FI_q | exact nI_10 | exact nI_20 | exact nI_30 | (simp (disch := omega) only [AI_q, AI_n, AL_q, AL_n, FI_q, FI_n, AI_ff, AI_fl, AI_la, AI_tt, FI_aa, FI_la, FI_fl, FI_tt, AL_ff, AL_aa, AL_fw, AL_tt, eW, eWc, eM, eMc, eB, eBc, eP, ePc, eD, eDc, eS, eSc, eJ, eJc, eL, eLc, eQ, eQc, eO, eOc, eA, eAc]; done) | fail) only [s17_0, s17_5, s17_9, s17_16, s225_0, s225_10, s225_18, s225_22, s225_34, c46_t, c46_f, c42_t, c42_f, c43_t, c43_f, c44_t, c44_f, c45_t, c45_f, c166_T, c166_F, c165_t, c165_f, c169_t, c169_f, c170_t, c170_f, c209_t, c209_f, c244_t, c244_f, H48_t, H48_f, H206_t, H206_f, HXnM, HYnM, HNnM, HOnM, aft_v, aft_n, aft_x2, z00, z10, oTr, oFa, cond_true, cond_false, nI_add, nI_mul, nI_s1, nI_clamp, inbT, oltT, oltF, oleT, oleF, oeqT, oeqF, is01_0, is01_1, AI_q, AI_n, AL_q, AL_n, FI_q, FI_n, AI_ff, AI_fl, AI_la, AI_tt, FI_aa, FI_la, FI_fl, FI_tt, AL_ff, AL_aa, AL_fw, AL_tt, eW, eWc, eM, eMc, eB, eBc, eP, ePc, eD, eDc, eS, eSc, eJ, eJc, eL, eLc, eQ, eQc, eO, eOc, eA, eAc]
    · simp (disch := first | omega | assumption | exact FI_q | exact nI_10 | exact nI_20 | exact nI_30 | (simp (disch := omega) only [AI_q, AI_n, AL_q, AL_n, FI_q, FI_n, AI_ff, AI_fl, AI_la, AI_tt, FI_aa, FI_la, FI_fl, FI_tt, AL_ff, AL_aa, AL_fw, AL_tt, eW, eWc, eM, eMc, eB, eBc, eP, ePc, eD, eDc, eS, eSc, eJ, eJc, eL, eLc, eQ, eQc, eO, eOc, eA, eAc]; done) | fail) only [s17_0, s17_5, s17_9, s17_16, s225_0, s225_10, s225_18, s225_22, s225_34, c46_t, c46_f, c42_t, c42_f, c43_t, c43_f, c44_t, c44_f, c45_t, c45_f, c166_T, c166_F, c165_t, c165_f, c169_t, c169_f, c170_t, c170_f, c209_t, c209_f, c244_t, c244_f, H48_t, H48_f, H206_t, H206_f, HXnM, HYnM, HNnM, HOnM, aft_v, aft_n, aft_x2, z00, z10, oTr, oFa, cond_true, cond_false, nI_add, nI_mul, nI_s1, nI_clamp, inbT, oltT, oltF, oleT, oleF, oeqT, oeqF, is01_0, is01_1, AI_q, AI_n, AL_q, AL_n, FI_q, FI_n, AI_ff, AI_fl, AI_la, AI_tt, FI_aa, FI_la, FI_fl, FI_tt, AL_ff, AL_aa, AL_fw, AL_tt, eW, eWc, eM, eMc, eB, eBc, eP, ePc, eD, eDc, eS, eSc, eJ, eJc, eL, eLc, eQ, eQc, eO, eOc, eA, eAc]
  obtain ⟨m, hm, rfl⟩ := id h1
  obtain ⟨y, -, hy, rfl⟩ := id h2
  have hC := IL_C hIL
  have hM' := IL_M hIL eIs
  have hPP : IP σ := hI0.2.2.1
  have hD' : ID σ := hI0.2.2.2.1
  have hS : IS σ := hI0.2.2.2.2.1
  refine opQ_of hI0 (.long (lN (feV σ (fun s => clL LS 0 s y) y nM m nP (numV (clL LS 5 0 y) 0) (dcN σ y a3 nD)))) ⟨_, rfl⟩ (fun d => ?_) (fun σ1 z e ho => ?_)
  · obtain ⟨τ, o1, o2⟩ := c56 (d := d + 39) (k := a3) (by omega) hy hC hPP ePc hP hm hD' eDc hD hS eJc hJ eMc hM
    refine ⟨τ, o1, ?_⟩
    simp (disch := first | omega | assumption | exact FI_q | exact nI_10 | exact nI_20 | exact nI_30 | (simp (disch := omega) only [AI_q, AI_n, AL_q, AL_n, FI_q, FI_n, AI_ff, AI_fl, AI_la, AI_tt, FI_aa, FI_la, FI_fl, FI_tt, AL_ff, AL_aa, AL_fw, AL_tt, eW, eWc, eM, eMc, eB, eBc, eP, ePc, eD, eDc, eS, eSc, eJ, eJc, eL, eLc, eQ, eQc, eO, eOc, eA, eAc]; done) | fail) only [s17_0, s17_5, s17_9, s17_16, s225_0, s225_10, s225_18, s225_22, s225_34, c46_t, c46_f, c42_t, c42_f, c43_t, c43_f, c44_t, c44_f, c45_t, c45_f, c166_T, c166_F, c165_t, c165_f, c169_t, c169_f, c170_t, c170_f, c209_t, c209_f, c244_t, c244_f, H48_t, H48_f, H206_t, H206_f, HXnM, HYnM, HNnM, HOnM, aft_v, aft_n, aft_x2, z00, z10, oTr, oFa, cond_true, cond_false, nI_add, nI_mul, nI_s1, nI_clamp, inbT, oltT, oltF, oleT, oleF, oeqT, oeqF, is01_0, is01_1, AI_q, AI_n, AL_q, AL_n, FI_q, FI_n, AI_ff, AI_fl, AI_la, AI_tt, FI_aa, FI_la, FI_fl, FI_tt, AL_ff, AL_aa, AL_fw, AL_tt, eW, eWc, eM, eMc, eB, eBc, eP, ePc, eD, eDc, eS, eSc, eJ, eJc, eL, eLc, eQ, eQc, eO, eOc, eA, eAc, o2]
  · have hPz : IP (wFI (wAL σ1 145 0 z) 85 0 (nI 0)) := (IP_off ho hPP : IP σ1)
    have eW1 := (offF ho 85 1 rfl).trans eW
    have eM1 := (offF ho 85 29 rfl).trans eM
    have eB1 := (offF ho 85 2 rfl).trans eB
    have eP1 := (offF ho 85 30 rfl).trans eP
    have eD1 := (offF ho 85 39 rfl).trans eD
    have eS1 := (offF ho 85 52 rfl).trans eS
    have eJ1 := (offF ho 85 53 rfl).trans eJ
    have eL1 := (offF ho 85 62 rfl).trans eL
    have eQ1 := (offF ho 85 63 rfl).trans eQ
    have eO1 := (offF ho 85 75 rfl).trans eO
    have eA1 := (offF ho 85 85 rfl).trans eA
    have hM0 : LM LS none σ1 := LM_off ho hM'
    have hM1 : LM LS none (wFI (wAL σ1 145 0 z) 85 0 (nI 0)) := hM0
    have hD1 : ID (wFI (wAL σ1 145 0 z) 85 0 (nI 0)) := (ID_off ho hD' : ID σ1)
    have hN1 : FI (wFI (wAL σ1 145 0 z) 85 0 (nI 0)) 85 39 = nI nD := (offF ho 85 39 rfl).trans eD
    have hT1 : FI (wFI (wAL σ1 145 0 z) 85 0 (nI 0)) 85 45 = -1 := (offF ho 85 45 rfl).trans eTr
    have eDD : dcN (wFI (wAL σ1 145 0 z) 85 0 (nI 0)) y a3 nD = dcN σ y a3 nD := dcN_z.trans (dcN_off' ho)
    have hX := DM_no (y := y) (k := a3) hD1 hN1 hD hT1
    rw [eDD] at hX
    obtain ⟨τ, o1, o2⟩ := c224 (σ := wFI (wAL σ1 145 0 z) 85 0 (nI 0)) (d := e + 39) (k := a3) (n := nP) (M := nM) (by omega) hy hM1 (DM_w hX hM) ((offF ho 85 30 rfl).trans eP) hP (mk5 hPz hP) hm ((offF ho 85 29 rfl).trans eM) hM
    rw [feV_c (σ := σ) (τ := wFI (wAL σ1 145 0 z) 85 0 (nI 0)) (offA ho 97 rfl) (offA ho 98 rfl) (offA ho 99 rfl) (offA ho 100 rfl)] at o2
    refine ⟨τ, stk_off o1, ?_⟩
    simp (disch := first | omega | assumption | exact FI_q | exact nI_10 | exact nI_20 | exact nI_30 | (simp (disch := omega) only [AI_q, AI_n, AL_q, AL_n, FI_q, FI_n, AI_ff, AI_fl, AI_la, AI_tt, FI_aa, FI_la, FI_fl, FI_tt, AL_ff, AL_aa, AL_fw, AL_tt, eW1, eM1, eB1, eP1, eD1, eS1, eJ1, eL1, eQ1, eO1, eA1]; done) | fail) only [s17_0, s17_5, s17_9, s17_16, s225_0, s225_10, s225_18, s225_22, s225_34, c46_t, c46_f, c42_t, c42_f, c43_t, c43_f, c44_t, c44_f, c45_t, c45_f, c166_T, c166_F, c165_t, c165_f, c169_t, c169_f, c170_t, c170_f, c209_t, c209_f, c244_t, c244_f, H48_t, H48_f, H206_t, H206_f, HXnM, HYnM, HNnM, HOnM, aft_v, aft_n, aft_x2, z00, z10, oTr, oFa, cond_true, cond_false, nI_add, nI_mul, nI_s1, nI_clamp, inbT, oltT, oltF, oleT, oleF, oeqT, oeqF, is01_0, is01_1, AI_q, AI_n, AL_q, AL_n, FI_q, FI_n, AI_ff, AI_fl, AI_la, AI_tt, FI_aa, FI_la, FI_fl, FI_tt, AL_ff, AL_aa, AL_fw, AL_tt, eW, eWc, eM, eMc, eB, eBc, eP, ePc, eD, eDc, eS, eSc, eJ, eJc, eL, eLc, eQ, eQc, eO, eOc, eA, eAc, eW1, eM1, eB1, eP1, eD1, eS1, eJ1, eL1, eQ1, eO1, eA1, o2]
    rfl

set_option maxHeartbeats 1000000 in
theorem op_bill {σ : PS} (hI : Inv σ) (a1 a2 : Int32) : Op (fun d σ => Run false d 18 0 [some (.ref 0), some (.int a1), some (.int a2), none, none, none] [] σ) (fun d σ => Run false d 226 0 [some (.ref 85), some (.int a1), some (.int a2), none, none, none, none] [] σ) σ isL (fun E => if E = 4 then 1 else if E = 1 then 2 else 0) := by
  have hI0 := hI
  obtain ⟨⟨⟨nW, hW, eW, eWc⟩, ⟨nM, hM, eM, eMc⟩, eTr, eIs⟩, ⟨⟨nB, hB, eB, eBc, hBy⟩, eFa, eC10⟩, ⟨⟨nP, hP, eP, ePc, hTr⟩, hPk, hSo, hGr, hCo⟩, ⟨nD, hD, eD, eDc, hDe⟩, ⟨⟨nS, hS, eS, eSc⟩, ⟨nJ, hJ, eJ, eJc, hJo⟩, hPa⟩, ⟨nL, nQ, hL, hQ, eL, eLc, eQ, eQc, hLo, hNo, eFg⟩, ⟨nO, hO, eO, eOc, hOf, hOz⟩, ⟨nA, hA, eA, eAc, hSa⟩, ⟨hBi, hOr⟩, LS, hIL⟩ := hI
  have H48_t := fun (d : Nat) (σ : PS) (a : Int32) => @c48_t d σ a nM
  have H48_f := fun (d : Nat) (σ : PS) (a : Int32) => @c48_f d σ a nM
  have H206_t := fun (d : Nat) (σ : PS) (a : Int32) => @c206_t d σ a nM
  have H206_f := fun (d : Nat) (σ : PS) (a : Int32) => @c206_f d σ a nM
  have HXnM := fun (d : Nat) (σ : PS) (a : Int32) => @c166_X d σ a nM
  have HYnM := fun (d : Nat) (σ : PS) (a : Int32) => @c166_Y d σ a nM
  have HNnM := fun (d : Nat) (σ : PS) (a : Int32) => @c166_N d σ a nM
  have HOnM := fun (d : Nat) (σ : PS) (a : Int32) => @c166_M d σ a nM
  by_cases h1 : IX nM a1
  case neg =>
    refine opE_of hI0 4 1 (.long (lN 0)) ⟨_, rfl⟩ (by decide) rfl (by decide) (fun d => ?_) (fun d => ?_)
    · simp (disch := first | omega | assumption | exact FI_q | exact nI_10 | exact nI_20 | exact nI_30 | (simp (disch := omega) only [AI_q, AI_n, AL_q, AL_n, FI_q, FI_n, AI_ff, AI_fl, AI_la, AI_tt, FI_aa, FI_la, FI_fl, FI_tt, AL_ff, AL_aa, AL_fw, AL_tt, eW, eWc, eM, eMc, eB, eBc, eP, ePc, eD, eDc, eS, eSc, eJ, eJc, eL, eLc, eQ, eQc, eO, eOc, eA, eAc]; done) | fail) only [s18_0, s18_5, s18_9, s18_26, s226_0, s226_10, s226_18, s226_22, s226_37, c46_t, c46_f, c42_t, c42_f, c43_t, c43_f, c44_t, c44_f, c45_t, c45_f, c166_T, c166_F, c165_t, c165_f, c169_t, c169_f, c170_t, c170_f, c209_t, c209_f, c244_t, c244_f, H48_t, H48_f, H206_t, H206_f, HXnM, HYnM, HNnM, HOnM, aft_v, aft_n, aft_x2, z00, z10, oTr, oFa, cond_true, cond_false, nI_add, nI_mul, nI_s1, nI_clamp, inbT, oltT, oltF, oleT, oleF, oeqT, oeqF, is01_0, is01_1, AI_q, AI_n, AL_q, AL_n, FI_q, FI_n, AI_ff, AI_fl, AI_la, AI_tt, FI_aa, FI_la, FI_fl, FI_tt, AL_ff, AL_aa, AL_fw, AL_tt, eW, eWc, eM, eMc, eB, eBc, eP, ePc, eD, eDc, eS, eSc, eJ, eJc, eL, eLc, eQ, eQc, eO, eOc, eA, eAc]
    · simp (disch := first | omega | assumption | exact FI_q | exact nI_10 | exact nI_20 | exact nI_30 | (simp (disch := omega) only [AI_q, AI_n, AL_q, AL_n, FI_q, FI_n, AI_ff, AI_fl, AI_la, AI_tt, FI_aa, FI_la, FI_fl, FI_tt, AL_ff, AL_aa, AL_fw, AL_tt, eW, eWc, eM, eMc, eB, eBc, eP, ePc, eD, eDc, eS, eSc, eJ, eJc, eL, eLc, eQ, eQc, eO, eOc, eA, eAc]; done) | fail) only [s18_0, s18_5, s18_9, s18_26, s226_0, s226_10, s226_18, s226_22, s226_37, c46_t, c46_f, c42_t, c42_f, c43_t, c43_f, c44_t, c44_f, c45_t, c45_f, c166_T, c166_F, c165_t, c165_f, c169_t, c169_f, c170_t, c170_f, c209_t, c209_f, c244_t, c244_f, H48_t, H48_f, H206_t, H206_f, HXnM, HYnM, HNnM, HOnM, aft_v, aft_n, aft_x2, z00, z10, oTr, oFa, cond_true, cond_false, nI_add, nI_mul, nI_s1, nI_clamp, inbT, oltT, oltF, oleT, oleF, oeqT, oeqF, is01_0, is01_1, AI_q, AI_n, AL_q, AL_n, FI_q, FI_n, AI_ff, AI_fl, AI_la, AI_tt, FI_aa, FI_la, FI_fl, FI_tt, AL_ff, AL_aa, AL_fw, AL_tt, eW, eWc, eM, eMc, eB, eBc, eP, ePc, eD, eDc, eS, eSc, eJ, eJc, eL, eLc, eQ, eQc, eO, eOc, eA, eAc]
  by_cases h2 : IR 0 40 a2
  case neg =>
    refine opE_of hI0 1 2 (.long (lN 0)) ⟨_, rfl⟩ (by decide) rfl (by decide) (fun d => ?_) (fun d => ?_)
    · simp (disch := first | omega | assumption | exact FI_q | exact nI_10 | exact nI_20 | exact nI_30 | (simp (disch := omega) only [AI_q, AI_n, AL_q, AL_n, FI_q, FI_n, AI_ff, AI_fl, AI_la, AI_tt, FI_aa, FI_la, FI_fl, FI_tt, AL_ff, AL_aa, AL_fw, AL_tt, eW, eWc, eM, eMc, eB, eBc, eP, ePc, eD, eDc, eS, eSc, eJ, eJc, eL, eLc, eQ, eQc, eO, eOc, eA, eAc]; done) | fail) only [s18_0, s18_5, s18_9, s18_26, s226_0, s226_10, s226_18, s226_22, s226_37, c46_t, c46_f, c42_t, c42_f, c43_t, c43_f, c44_t, c44_f, c45_t, c45_f, c166_T, c166_F, c165_t, c165_f, c169_t, c169_f, c170_t, c170_f, c209_t, c209_f, c244_t, c244_f, H48_t, H48_f, H206_t, H206_f, HXnM, HYnM, HNnM, HOnM, aft_v, aft_n, aft_x2, z00, z10, oTr, oFa, cond_true, cond_false, nI_add, nI_mul, nI_s1, nI_clamp, inbT, oltT, oltF, oleT, oleF, oeqT, oeqF, is01_0, is01_1, AI_q, AI_n, AL_q, AL_n, FI_q, FI_n, AI_ff, AI_fl, AI_la, AI_tt, FI_aa, FI_la, FI_fl, FI_tt, AL_ff, AL_aa, AL_fw, AL_tt, eW, eWc, eM, eMc, eB, eBc, eP, ePc, eD, eDc, eS, eSc, eJ, eJc, eL, eLc, eQ, eQc, eO, eOc, eA, eAc]
    · simp (disch := first | omega | assumption | exact FI_q | exact nI_10 | exact nI_20 | exact nI_30 | (simp (disch := omega) only [AI_q, AI_n, AL_q, AL_n, FI_q, FI_n, AI_ff, AI_fl, AI_la, AI_tt, FI_aa, FI_la, FI_fl, FI_tt, AL_ff, AL_aa, AL_fw, AL_tt, eW, eWc, eM, eMc, eB, eBc, eP, ePc, eD, eDc, eS, eSc, eJ, eJc, eL, eLc, eQ, eQc, eO, eOc, eA, eAc]; done) | fail) only [s18_0, s18_5, s18_9, s18_26, s226_0, s226_10, s226_18, s226_22, s226_37, c46_t, c46_f, c42_t, c42_f, c43_t, c43_f, c44_t, c44_f, c45_t, c45_f, c166_T, c166_F, c165_t, c165_f, c169_t, c169_f, c170_t, c170_f, c209_t, c209_f, c244_t, c244_f, H48_t, H48_f, H206_t, H206_f, HXnM, HYnM, HNnM, HOnM, aft_v, aft_n, aft_x2, z00, z10, oTr, oFa, cond_true, cond_false, nI_add, nI_mul, nI_s1, nI_clamp, inbT, oltT, oltF, oleT, oleF, oeqT, oeqF, is01_0, is01_1, AI_q, AI_n, AL_q, AL_n, FI_q, FI_n, AI_ff, AI_fl, AI_la, AI_tt, FI_aa, FI_la, FI_fl, FI_tt, AL_ff, AL_aa, AL_fw, AL_tt, eW, eWc, eM, eMc, eB, eBc, eP, ePc, eD, eDc, eS, eSc, eJ, eJc, eL, eLc, eQ, eQc, eO, eOc, eA, eAc]
  obtain ⟨m, hm, rfl⟩ := id h1
  obtain ⟨y, -, hy, rfl⟩ := id h2
  have e41 : m * 41 + y = 41 * m + y := by omega
  have hi : 41 * m + y < 410 := by omega
  have hC := IL_C hIL
  have hM' := IL_M hIL eIs
  have hPP : IP σ := hI0.2.2.1
  have hD' : ID σ := hI0.2.2.2.1
  have hS : IS σ := hI0.2.2.2.2.1
  refine opW_of (.long ((lN (feV σ (fun s => clL LS 0 s y) y nM m nP (numV (clL LS 5 0 y) 0) (dcN σ y (nI nW) nD))) - AL σ 110 (41 * m + y))) ⟨_, rfl⟩ (fun σ1 => ∃ υ, Off σ υ ∧ σ1 = wAL υ 83 (41 * m + y) (lN (feV σ (fun s => clL LS 0 s y) y nM m nP (numV (clL LS 5 0 y) 0) (dcN σ y (nI nW) nD)))) (fun d => ?_) (fun σ1 z e hp => ?_)
  · obtain ⟨τ, o1, o2⟩ := c56 (d := d + 39) (k := nI nW) (by omega) hy hC hPP ePc hP hm hD' eDc hD hS eJc hJ eMc hM
    refine ⟨_, ⟨τ, o1, rfl⟩, ?_⟩
    have e83 : AL τ 83 (41 * m + y) = AL σ 110 (41 * m + y) := by rw [offB o1 83 rfl]; exact hBi _ hi
    simp (disch := first | omega | assumption | exact FI_q | exact nI_10 | exact nI_20 | exact nI_30 | (simp (disch := omega) only [AI_q, AI_n, AL_q, AL_n, FI_q, FI_n, AI_ff, AI_fl, AI_la, AI_tt, FI_aa, FI_la, FI_fl, FI_tt, AL_ff, AL_aa, AL_fw, AL_tt, eW, eWc, eM, eMc, eB, eBc, eP, ePc, eD, eDc, eS, eSc, eJ, eJc, eL, eLc, eQ, eQc, eO, eOc, eA, eAc]; done) | fail) only [s18_0, s18_5, s18_9, s18_26, s226_0, s226_10, s226_18, s226_22, s226_37, c46_t, c46_f, c42_t, c42_f, c43_t, c43_f, c44_t, c44_f, c45_t, c45_f, c166_T, c166_F, c165_t, c165_f, c169_t, c169_f, c170_t, c170_f, c209_t, c209_f, c244_t, c244_f, H48_t, H48_f, H206_t, H206_f, HXnM, HYnM, HNnM, HOnM, aft_v, aft_n, aft_x2, z00, z10, oTr, oFa, cond_true, cond_false, nI_add, nI_mul, nI_s1, nI_clamp, inbT, oltT, oltF, oleT, oleF, oeqT, oeqF, is01_0, is01_1, AI_q, AI_n, AL_q, AL_n, FI_q, FI_n, AI_ff, AI_fl, AI_la, AI_tt, FI_aa, FI_la, FI_fl, FI_tt, AL_ff, AL_aa, AL_fw, AL_tt, eW, eWc, eM, eMc, eB, eBc, eP, ePc, eD, eDc, eS, eSc, eJ, eJc, eL, eLc, eQ, eQc, eO, eOc, eA, eAc, o2, e41, e83, i64_b]
  · obtain ⟨υ, ho, rfl⟩ := hp
    have hPz : IP (wFI (wAL (wAL υ 83 (41 * m + y) (lN (feV σ (fun s => clL LS 0 s y) y nM m nP (numV (clL LS 5 0 y) 0) (dcN σ y (nI nW) nD)))) 145 0 z) 85 0 (nI 0)) := (IP_off ho hPP : IP υ)
    have hM0 : LM LS none υ := LM_off ho hM'
    have hM1 : LM LS none (wFI (wAL (wAL υ 83 (41 * m + y) (lN (feV σ (fun s => clL LS 0 s y) y nM m nP (numV (clL LS 5 0 y) 0) (dcN σ y (nI nW) nD)))) 145 0 z) 85 0 (nI 0)) := hM0
    have hD1 : ID (wFI (wAL (wAL υ 83 (41 * m + y) (lN (feV σ (fun s => clL LS 0 s y) y nM m nP (numV (clL LS 5 0 y) 0) (dcN σ y (nI nW) nD)))) 145 0 z) 85 0 (nI 0)) := (ID_off ho hD' : ID υ)
    have hN1 : FI (wFI (wAL (wAL υ 83 (41 * m + y) (lN (feV σ (fun s => clL LS 0 s y) y nM m nP (numV (clL LS 5 0 y) 0) (dcN σ y (nI nW) nD)))) 145 0 z) 85 0 (nI 0)) 85 39 = nI nD := (offF ho 85 39 rfl).trans eD
    have hT1 : FI (wFI (wAL (wAL υ 83 (41 * m + y) (lN (feV σ (fun s => clL LS 0 s y) y nM m nP (numV (clL LS 5 0 y) 0) (dcN σ y (nI nW) nD)))) 145 0 z) 85 0 (nI 0)) 85 45 = -1 := (offF ho 85 45 rfl).trans eTr
    have eDD : dcN (wFI (wAL (wAL υ 83 (41 * m + y) (lN (feV σ (fun s => clL LS 0 s y) y nM m nP (numV (clL LS 5 0 y) 0) (dcN σ y (nI nW) nD)))) 145 0 z) 85 0 (nI 0)) y (nI nW) nD = dcN σ y (nI nW) nD := dcN_z.trans (dcN_zb.trans (dcN_off' ho))
    have hX := DM_no (y := y) (k := nI nW) hD1 hN1 hD hT1
    rw [eDD] at hX
    obtain ⟨τ, o1, o2⟩ := c224 (σ := wFI (wAL (wAL υ 83 (41 * m + y) (lN (feV σ (fun s => clL LS 0 s y) y nM m nP (numV (clL LS 5 0 y) 0) (dcN σ y (nI nW) nD)))) 145 0 z) 85 0 (nI 0)) (d := e + 39) (k := nI nW) (n := nP) (M := nM) (by omega) hy hM1 (DM_w hX hM) ((offF ho 85 30 rfl).trans eP) hP (mk5 hPz hP) hm ((offF ho 85 29 rfl).trans eM) hM
    rw [feV_c (σ := σ) (τ := wFI (wAL (wAL υ 83 (41 * m + y) (lN (feV σ (fun s => clL LS 0 s y) y nM m nP (numV (clL LS 5 0 y) 0) (dcN σ y (nI nW) nD)))) 145 0 z) 85 0 (nI 0)) (offA ho 97 rfl) (offA ho 98 rfl) (offA ho 99 rfl) (offA ho 100 rfl)] at o2
    have o2' : Run false (e + 39) 224 0 [some (.ref 85), some (.int (nI m)), some (.int (nI y)), some (.int (nI nW)), none, none, none, none, none, none, none, none, none, none] [] (wFI (wAL (wAL υ 83 (41 * m + y) (lN (feV σ (fun s => clL LS 0 s y) y nM m nP (numV (clL LS 5 0 y) 0) (dcN σ y (nI nW) nD)))) 145 0 z) 85 0 (nI 0)) = some (.inl (some (.long (lN (feV σ (fun s => clL LS 0 s y) y nM m nP (numV (clL LS 5 0 y) 0) (dcN σ y (nI nW) nD)))), τ)) := o2
    have eW1 : FI υ 85 1 = nI nW := (offF ho 85 1 rfl).trans eW
    have eM1 : FI υ 85 29 = nI nM := (offF ho 85 29 rfl).trans eM
    have e110 : AL τ 110 (41 * m + y) = AL σ 110 (41 * m + y) := by
      rw [stkB o1 110]
      show AL (wAL (wAL υ 83 (41 * m + y) (lN (feV σ (fun s => clL LS 0 s y) y nM m nP (numV (clL LS 5 0 y) 0) (dcN σ y (nI nW) nD)))) 145 0 z) 110 (41 * m + y) = _
      rw [AL_n (Or.inl (by decide)), AL_n (Or.inl (by decide)), offB ho 110 rfl]
    obtain ⟨i1, i2, i3, i4⟩ := bil_A hi hI0 ho o1
    refine ⟨_, ?_, i1, i2, i3, i4⟩
    simp (disch := first | omega | assumption | exact FI_q | exact nI_10 | exact nI_20 | exact nI_30 | (simp (disch := omega) only [AI_q, AI_n, AL_q, AL_n, FI_q, FI_n, AI_ff, AI_fl, AI_la, AI_tt, FI_aa, FI_la, FI_fl, FI_tt, AL_ff, AL_aa, AL_fw, AL_tt, eW1, eM1]; done) | fail) only [s18_0, s18_5, s18_9, s18_26, s226_0, s226_10, s226_18, s226_22, s226_37, c46_t, c46_f, c42_t, c42_f, c43_t, c43_f, c44_t, c44_f, c45_t, c45_f, c166_T, c166_F, c165_t, c165_f, c169_t, c169_f, c170_t, c170_f, c209_t, c209_f, c244_t, c244_f, H48_t, H48_f, H206_t, H206_f, HXnM, HYnM, HNnM, HOnM, aft_v, aft_n, aft_x2, z00, z10, oTr, oFa, cond_true, cond_false, nI_add, nI_mul, nI_s1, nI_clamp, inbT, oltT, oltF, oleT, oleF, oeqT, oeqF, is01_0, is01_1, AI_q, AI_n, AL_q, AL_n, FI_q, FI_n, AI_ff, AI_fl, AI_la, AI_tt, FI_aa, FI_la, FI_fl, FI_tt, AL_ff, AL_aa, AL_fw, AL_tt, eW, eWc, eM, eMc, eB, eBc, eP, ePc, eD, eDc, eS, eSc, eJ, eJc, eL, eLc, eQ, eQc, eO, eOc, eA, eAc, FI_q, FI_n, FI_la, eW1, eM1, o2', e110]
