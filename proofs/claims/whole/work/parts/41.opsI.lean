/-! printed by wip/whole/ops.py: the ops that write no more than they say -/
set_option maxHeartbeats 8000000 in
theorem op_worth {σ : PS} (hI : Inv σ) (a1 a2 : Int32) : Op (fun d σ => Run false d 40 0 [some (.ref 0), some (.int a1), some (.int a2), none, none, none, none] [] σ) (fun d σ => Run false d 266 0 [some (.ref 85), some (.int a1), some (.int a2), none, none, none, none, none, none] [] σ) σ isI (fun E => if E = 4 then 1 else if E = 1 then 2 else 0) := by
  have hI0 := hI
  obtain ⟨⟨⟨nW, hW, eW, eWc⟩, ⟨nM, hM, eM, eMc⟩, eTr, eIs⟩, ⟨⟨nB, hB, eB, eBc, hBy⟩, eFa, eC10⟩, ⟨⟨nP, hP, eP, ePc, hTr⟩, hPk, hSo, hGr, hCo⟩, ⟨nD, hD, eD, eDc, hDe⟩, ⟨⟨nS, hS, eS, eSc⟩, ⟨nJ, hJ, eJ, eJc, hJo⟩, hPa⟩, ⟨nL, nQ, hL, hQ, eL, eLc, eQ, eQc, hLo, hNo, eFg⟩, ⟨nO, hO, eO, eOc, hOf, hOz⟩, ⟨nA, hA, eA, eAc, hSa⟩, ⟨hBi, hOr⟩, LS, hIL⟩ := hI
  have H48_t := fun (d : Nat) (σ : PS) (a : Int32) => @c48_t d σ a nM
  have H48_f := fun (d : Nat) (σ : PS) (a : Int32) => @c48_f d σ a nM
  have H206_t := fun (d : Nat) (σ : PS) (a : Int32) => @c206_t d σ a nM
  have H206_f := fun (d : Nat) (σ : PS) (a : Int32) => @c206_f d σ a nM
  have HXnM := fun (d : Nat) (σ : PS) (a : Int32) => @c166_X d σ a nM
  have HYnM := fun (d : Nat) (σ : PS) (a : Int32) => @c166_Y d σ a nM
  have HNnM := fun (d : Nat) (σ : PS) (a : Int32) => @c166_N d σ a nM
  have HOnM := fun (d : Nat) (σ : PS) (a : Int32) => @c166_M d σ a nM
  by_cases h1 : IX nM a1
  case neg =>
    refine opE_of hI0 4 1 (.int (nI 0)) ⟨_, rfl⟩ (by decide) rfl (by decide) (fun d => ?_) (fun d => ?_)
    · simp (disch := first | omega | assumption | exact FI_q | exact nI_10 | exact nI_20 | exact nI_30 | (simp (disch := omega) only [AI_q, AI_n, AL_q, AL_n, FI_q, FI_n, AI_ff, AI_fl, AI_la, AI_tt, FI_aa, FI_la, FI_fl, FI_tt, AL_ff, AL_aa, AL_fw, AL_tt, eW, eWc, eM, eMc, eB, eBc, eP, ePc, eD, eDc, eS, eSc, eJ, eJc, eL, eLc, eQ, eQc, eO, eOc, eA, eAc]; done) | fail) only [s40_0, s40_5, s40_9, s266_0, s266_10, s266_18, s266_22, c46_t, c46_f, c42_t, c42_f, c43_t, c43_f, c44_t, c44_f, c45_t, c45_f, c166_T, c166_F, c165_t, c165_f, c169_t, c169_f, c170_t, c170_f, c209_t, c209_f, c244_t, c244_f, H48_t, H48_f, H206_t, H206_f, HXnM, HYnM, HNnM, HOnM, aft_v, aft_n, aft_x2, z00, z10, oTr, oFa, cond_true, cond_false, nI_add, nI_mul, nI_s1, nI_clamp, inbT, oltT, oltF, oleT, oleF, oeqT, oeqF, is01_0, is01_1, AI_q, AI_n, AL_q, AL_n, FI_q, FI_n, AI_ff, AI_fl, AI_la, AI_tt, FI_aa, FI_la, FI_fl, FI_tt, AL_ff, AL_aa, AL_fw, AL_tt, eW, eWc, eM, eMc, eB, eBc, eP, ePc, eD, eDc, eS, eSc, eJ, eJc, eL, eLc, eQ, eQc, eO, eOc, eA, eAc]
    · simp (disch := first | omega | assumption | exact FI_q | exact nI_10 | exact nI_20 | exact nI_30 | (simp (disch := omega) only [AI_q, AI_n, AL_q, AL_n, FI_q, FI_n, AI_ff, AI_fl, AI_la, AI_tt, FI_aa, FI_la, FI_fl, FI_tt, AL_ff, AL_aa, AL_fw, AL_tt, eW, eWc, eM, eMc, eB, eBc, eP, ePc, eD, eDc, eS, eSc, eJ, eJc, eL, eLc, eQ, eQc, eO, eOc, eA, eAc]; done) | fail) only [s40_0, s40_5, s40_9, s266_0, s266_10, s266_18, s266_22, c46_t, c46_f, c42_t, c42_f, c43_t, c43_f, c44_t, c44_f, c45_t, c45_f, c166_T, c166_F, c165_t, c165_f, c169_t, c169_f, c170_t, c170_f, c209_t, c209_f, c244_t, c244_f, H48_t, H48_f, H206_t, H206_f, HXnM, HYnM, HNnM, HOnM, aft_v, aft_n, aft_x2, z00, z10, oTr, oFa, cond_true, cond_false, nI_add, nI_mul, nI_s1, nI_clamp, inbT, oltT, oltF, oleT, oleF, oeqT, oeqF, is01_0, is01_1, AI_q, AI_n, AL_q, AL_n, FI_q, FI_n, AI_ff, AI_fl, AI_la, AI_tt, FI_aa, FI_la, FI_fl, FI_tt, AL_ff, AL_aa, AL_fw, AL_tt, eW, eWc, eM, eMc, eB, eBc, eP, ePc, eD, eDc, eS, eSc, eJ, eJc, eL, eLc, eQ, eQc, eO, eOc, eA, eAc]
  by_cases h2 : IR 0 40 a2
  case neg =>
    refine opE_of hI0 1 2 (.int (nI 0)) ⟨_, rfl⟩ (by decide) rfl (by decide) (fun d => ?_) (fun d => ?_)
    · simp (disch := first | omega | assumption | exact FI_q | exact nI_10 | exact nI_20 | exact nI_30 | (simp (disch := omega) only [AI_q, AI_n, AL_q, AL_n, FI_q, FI_n, AI_ff, AI_fl, AI_la, AI_tt, FI_aa, FI_la, FI_fl, FI_tt, AL_ff, AL_aa, AL_fw, AL_tt, eW, eWc, eM, eMc, eB, eBc, eP, ePc, eD, eDc, eS, eSc, eJ, eJc, eL, eLc, eQ, eQc, eO, eOc, eA, eAc]; done) | fail) only [s40_0, s40_5, s40_9, s266_0, s266_10, s266_18, s266_22, c46_t, c46_f, c42_t, c42_f, c43_t, c43_f, c44_t, c44_f, c45_t, c45_f, c166_T, c166_F, c165_t, c165_f, c169_t, c169_f, c170_t, c170_f, c209_t, c209_f, c244_t, c244_f, H48_t, H48_f, H206_t, H206_f, HXnM, HYnM, HNnM, HOnM, aft_v, aft_n, aft_x2, z00, z10, oTr, oFa, cond_true, cond_false, nI_add, nI_mul, nI_s1, nI_clamp, inbT, oltT, oltF, oleT, oleF, oeqT, oeqF, is01_0, is01_1, AI_q, AI_n, AL_q, AL_n, FI_q, FI_n, AI_ff, AI_fl, AI_la, AI_tt, FI_aa, FI_la, FI_fl, FI_tt, AL_ff, AL_aa, AL_fw, AL_tt, eW, eWc, eM, eMc, eB, eBc, eP, ePc, eD, eDc, eS, eSc, eJ, eJc, eL, eLc, eQ, eQc, eO, eOc, eA, eAc]
    · simp (disch := first | omega | assumption | exact FI_q | exact nI_10 | exact nI_20 | exact nI_30 | (simp (disch := omega) only [AI_q, AI_n, AL_q, AL_n, FI_q, FI_n, AI_ff, AI_fl, AI_la, AI_tt, FI_aa, FI_la, FI_fl, FI_tt, AL_ff, AL_aa, AL_fw, AL_tt, eW, eWc, eM, eMc, eB, eBc, eP, ePc, eD, eDc, eS, eSc, eJ, eJc, eL, eLc, eQ, eQc, eO, eOc, eA, eAc]; done) | fail) only [s40_0, s40_5, s40_9, s266_0, s266_10, s266_18, s266_22, c46_t, c46_f, c42_t, c42_f, c43_t, c43_f, c44_t, c44_f, c45_t, c45_f, c166_T, c166_F, c165_t, c165_f, c169_t, c169_f, c170_t, c170_f, c209_t, c209_f, c244_t, c244_f, H48_t, H48_f, H206_t, H206_f, HXnM, HYnM, HNnM, HOnM, aft_v, aft_n, aft_x2, z00, z10, oTr, oFa, cond_true, cond_false, nI_add, nI_mul, nI_s1, nI_clamp, inbT, oltT, oltF, oleT, oleF, oeqT, oeqF, is01_0, is01_1, AI_q, AI_n, AL_q, AL_n, FI_q, FI_n, AI_ff, AI_fl, AI_la, AI_tt, FI_aa, FI_la, FI_fl, FI_tt, AL_ff, AL_aa, AL_fw, AL_tt, eW, eWc, eM, eMc, eB, eBc, eP, ePc, eD, eDc, eS, eSc, eJ, eJc, eL, eLc, eQ, eQc, eO, eOc, eA, eAc]
  obtain ⟨m, hm, rfl⟩ := id h1
  obtain ⟨y, -, hy, rfl⟩ := id h2
  refine opQ_of hI0 (.int (nI (wrP (fun s => wiN σ m s y nA nL) 5).2)) ⟨_, rfl⟩ (fun d => ?_) (fun σ1 z e ho => ?_)
  · obtain ⟨τ, o1, r1⟩ := c40_lp (σ := σ) (d := d + 39) (m := m) (y := y) (nA := nA) (nL := nL) (by omega) hI0 eAc eA hA eLc hL (by omega)
    refine ⟨τ, o1, ?_⟩
    simp (disch := first | omega | assumption | exact FI_q | exact nI_10 | exact nI_20 | exact nI_30 | (simp (disch := omega) only [AI_q, AI_n, AL_q, AL_n, FI_q, FI_n, AI_ff, AI_fl, AI_la, AI_tt, FI_aa, FI_la, FI_fl, FI_tt, AL_ff, AL_aa, AL_fw, AL_tt, eW, eWc, eM, eMc, eB, eBc, eP, ePc, eD, eDc, eS, eSc, eJ, eJc, eL, eLc, eQ, eQc, eO, eOc, eA, eAc]; done) | fail) only [s40_0, s40_5, s40_9, s266_0, s266_10, s266_18, s266_22, c46_t, c46_f, c42_t, c42_f, c43_t, c43_f, c44_t, c44_f, c45_t, c45_f, c166_T, c166_F, c165_t, c165_f, c169_t, c169_f, c170_t, c170_f, c209_t, c209_f, c244_t, c244_f, H48_t, H48_f, H206_t, H206_f, HXnM, HYnM, HNnM, HOnM, aft_v, aft_n, aft_x2, z00, z10, oTr, oFa, cond_true, cond_false, nI_add, nI_mul, nI_s1, nI_clamp, inbT, oltT, oltF, oleT, oleF, oeqT, oeqF, is01_0, is01_1, AI_q, AI_n, AL_q, AL_n, FI_q, FI_n, AI_ff, AI_fl, AI_la, AI_tt, FI_aa, FI_la, FI_fl, FI_tt, AL_ff, AL_aa, AL_fw, AL_tt, eW, eWc, eM, eMc, eB, eBc, eP, ePc, eD, eDc, eS, eSc, eJ, eJc, eL, eLc, eQ, eQc, eO, eOc, eA, eAc]
    exact r1
  · skip
    have hI1 : Inv (wFI (wAL σ1 145 0 z) 85 0 (nI 0)) := Inv_tn (Inv_o (Inv_off ho hI0))
    have hLz : FI (wFI (wAL σ1 145 0 z) 85 0 (nI 0)) 60 0 = nI nL := (offF ho 60 0 rfl).trans eLc
    have hAz : FI (wFI (wAL σ1 145 0 z) 85 0 (nI 0)) 85 85 = nI nA := (offF ho 85 85 rfl).trans eA
    have eW1 := (offF ho 85 1 rfl).trans eW
    have eM1 := (offF ho 85 29 rfl).trans eM
    have eB1 := (offF ho 85 2 rfl).trans eB
    have eP1 := (offF ho 85 30 rfl).trans eP
    have eD1 := (offF ho 85 39 rfl).trans eD
    have eS1 := (offF ho 85 52 rfl).trans eS
    have eJ1 := (offF ho 85 53 rfl).trans eJ
    have eL1 := (offF ho 85 62 rfl).trans eL
    have eQ1 := (offF ho 85 63 rfl).trans eQ
    have eO1 := (offF ho 85 75 rfl).trans eO
    have eA1 := (offF ho 85 85 rfl).trans eA
    obtain ⟨τ, o1, r1⟩ := c266_lp (σ := wFI (wAL σ1 145 0 z) 85 0 (nI 0)) (d := e + 39) (m := m) (y := y) (nA := nA) (nL := nL) (by omega) hI1 hAz hA hLz hL
    have ew : (fun s => wiN (wFI (wAL σ1 145 0 z) 85 0 (nI 0)) m s y nA nL) = (fun s => wiN σ m s y nA nL) := by
      funext s
      unfold wiN
      rw [spN_z, frN_z, toN_z, aoN_z, spN_off ho (Or.inl rfl), frN_off ho, toN_off ho, aoN_off ho]
    rw [ew] at r1
    refine ⟨τ, o1, ?_⟩
    simp (disch := first | omega | assumption | exact FI_q | exact nI_10 | exact nI_20 | exact nI_30 | (simp (disch := omega) only [AI_q, AI_n, AL_q, AL_n, FI_q, FI_n, AI_ff, AI_fl, AI_la, AI_tt, FI_aa, FI_la, FI_fl, FI_tt, AL_ff, AL_aa, AL_fw, AL_tt, eW1, eM1, eB1, eP1, eD1, eS1, eJ1, eL1, eQ1, eO1, eA1]; done) | fail) only [s40_0, s40_5, s40_9, s266_0, s266_10, s266_18, s266_22, c46_t, c46_f, c42_t, c42_f, c43_t, c43_f, c44_t, c44_f, c45_t, c45_f, c166_T, c166_F, c165_t, c165_f, c169_t, c169_f, c170_t, c170_f, c209_t, c209_f, c244_t, c244_f, H48_t, H48_f, H206_t, H206_f, HXnM, HYnM, HNnM, HOnM, aft_v, aft_n, aft_x2, z00, z10, oTr, oFa, cond_true, cond_false, nI_add, nI_mul, nI_s1, nI_clamp, inbT, oltT, oltF, oleT, oleF, oeqT, oeqF, is01_0, is01_1, AI_q, AI_n, AL_q, AL_n, FI_q, FI_n, AI_ff, AI_fl, AI_la, AI_tt, FI_aa, FI_la, FI_fl, FI_tt, AL_ff, AL_aa, AL_fw, AL_tt, eW, eWc, eM, eMc, eB, eBc, eP, ePc, eD, eDc, eS, eSc, eJ, eJc, eL, eLc, eQ, eQc, eO, eOc, eA, eAc, eW1, eM1, eB1, eP1, eD1, eS1, eJ1, eL1, eQ1, eO1, eA1]
    exact r1
