/-! printed by wip/whole/ops.py: the ops that write no more than they say -/
set_option maxHeartbeats 2000000 in
theorem op_maker {σ : PS} (hI : Inv σ) : Op (fun d σ => Run false d 7 0 [some (.ref 0)] [] σ) (fun d σ => Run false d 205 0 [some (.ref 85)] [] σ) σ isI (fun E => if E = 2 then 1 else 1) := by
  have hI0 := hI
  obtain ⟨⟨⟨nW, hW, eW, eWc⟩, ⟨nM, hM, eM, eMc⟩, eTr, eIs⟩, ⟨⟨nB, hB, eB, eBc, hBy⟩, eFa, eC10⟩, ⟨⟨nP, hP, eP, ePc, hTr⟩, hPk, hSo, hGr, hCo⟩, ⟨nD, hD, eD, eDc, hDe⟩, ⟨⟨nS, hS, eS, eSc⟩, ⟨nJ, hJ, eJ, eJc, hJo⟩, hPa⟩, ⟨nL, nQ, hL, hQ, eL, eLc, eQ, eQc, hLo, hNo, eFg⟩, ⟨nO, hO, eO, eOc, hOf, hOz⟩, ⟨nA, hA, eA, eAc, hSa⟩, ⟨hBi, hOr⟩, LS, hIL⟩ := hI
  by_cases h1 : nM < 10
  case neg =>
    refine opE_of hI0 2 1 (.int (nI 0)) ⟨_, rfl⟩ (by decide) rfl (by decide) (fun d => ?_) (fun d => ?_)
    · simp (disch := first | omega | assumption | rfl) only [s7_0, s205_0, s205_24, c42_t, c42_f, c43_t, c43_f, c44_t, c44_f, c45_t, c45_f, c166_T, c166_F, c165_t, c165_f, c169_t, c169_f, c170_t, c170_f, c209_t, c209_f, c244_t, c244_f, aft_v, aft_n, aft_x1, z00, z10, cond_true, cond_false, eMc, eM, nI_add, nI_mul, nI_sub, nI_clamp, inbT, oltT, oltF, oleT, oleF, oeqT, oeqF, is01_0, is01_1, AI_q, AI_n, AL_q, AL_n, FI_q, FI_n, AI_ff, AI_fl, AI_la, AI_tt, FI_aa, FI_la, FI_fl, FI_tt, AL_ff, AL_aa, AL_fw, AL_tt]
    · simp (disch := first | omega | assumption | rfl) only [s7_0, s205_0, s205_24, c42_t, c42_f, c43_t, c43_f, c44_t, c44_f, c45_t, c45_f, c166_T, c166_F, c165_t, c165_f, c169_t, c169_f, c170_t, c170_f, c209_t, c209_f, c244_t, c244_f, aft_v, aft_n, aft_x1, z00, z10, cond_true, cond_false, eMc, eM, nI_add, nI_mul, nI_sub, nI_clamp, inbT, oltT, oltF, oleT, oleF, oeqT, oeqF, is01_0, is01_1, AI_q, AI_n, AL_q, AL_n, FI_q, FI_n, AI_ff, AI_fl, AI_la, AI_tt, FI_aa, FI_la, FI_fl, FI_tt, AL_ff, AL_aa, AL_fw, AL_tt]
  refine opV_of (.int (nI nM)) (wFI σ 0 1 (nI (nM + 1))) (fun z => wFI (wFI (wAL (wFI σ 0 1 (nI (nM + 1))) 145 0 z) 85 0 (nI 0)) 85 29 (nI (nM + 1))) ⟨_, rfl⟩ (fun d => ?_) (fun z d => ?_) (fun z => ?_) (fun z => rfl) (fun z => rfl) (fun z => Kp_eq rfl rfl)
  · simp (disch := first | omega | assumption | rfl) only [s7_0, s205_0, s205_24, c42_t, c42_f, c43_t, c43_f, c44_t, c44_f, c45_t, c45_f, c166_T, c166_F, c165_t, c165_f, c169_t, c169_f, c170_t, c170_f, c209_t, c209_f, c244_t, c244_f, aft_v, aft_n, aft_x1, z00, z10, cond_true, cond_false, nI_add, nI_mul, nI_sub, nI_clamp, inbT, oltT, oltF, oleT, oleF, oeqT, oeqF, is01_0, is01_1, AI_q, AI_n, AL_q, AL_n, FI_q, FI_n, AI_ff, AI_fl, AI_la, AI_tt, FI_aa, FI_la, FI_fl, FI_tt, AL_ff, AL_aa, AL_fw, AL_tt, eMc, Nat.add_sub_cancel]
  · simp (disch := first | omega | assumption | rfl) only [s7_0, s205_0, s205_24, c42_t, c42_f, c43_t, c43_f, c44_t, c44_f, c45_t, c45_f, c166_T, c166_F, c165_t, c165_f, c169_t, c169_f, c170_t, c170_f, c209_t, c209_f, c244_t, c244_f, aft_v, aft_n, aft_x1, z00, z10, cond_true, cond_false, nI_add, nI_mul, nI_sub, nI_clamp, inbT, oltT, oltF, oleT, oleF, oeqT, oeqF, is01_0, is01_1, AI_q, AI_n, AL_q, AL_n, FI_q, FI_n, AI_ff, AI_fl, AI_la, AI_tt, FI_aa, FI_la, FI_fl, FI_tt, AL_ff, AL_aa, AL_fw, AL_tt, eM, Nat.add_sub_cancel]
  · obtain ⟨g0, g1, g2, g3, g4, g5, g6, g7, g8, g9⟩ := @Inv_o σ z hI0
    exact ⟨⟨⟨nW, hW, eW, eWc⟩, ⟨nM + 1, by omega, rfl, rfl⟩, eTr, eIs⟩, g1, g2, g3, g4, g5, g6, g7, g8, g9⟩

set_option maxHeartbeats 2000000 in
theorem op_scheme {σ : PS} (hI : Inv σ) : Op (fun d σ => Run false d 22 0 [some (.ref 0)] [] σ) (fun d σ => Run false d 232 0 [some (.ref 85)] [] σ) σ isI (fun E => if E = 2 then 1 else 1) := by
  have hI0 := hI
  obtain ⟨⟨⟨nW, hW, eW, eWc⟩, ⟨nM, hM, eM, eMc⟩, eTr, eIs⟩, ⟨⟨nB, hB, eB, eBc, hBy⟩, eFa, eC10⟩, ⟨⟨nP, hP, eP, ePc, hTr⟩, hPk, hSo, hGr, hCo⟩, ⟨nD, hD, eD, eDc, hDe⟩, ⟨⟨nS, hS, eS, eSc⟩, ⟨nJ, hJ, eJ, eJc, hJo⟩, hPa⟩, ⟨nL, nQ, hL, hQ, eL, eLc, eQ, eQc, hLo, hNo, eFg⟩, ⟨nO, hO, eO, eOc, hOf, hOz⟩, ⟨nA, hA, eA, eAc, hSa⟩, ⟨hBi, hOr⟩, LS, hIL⟩ := hI
  by_cases h1 : nS < 4
  case neg =>
    refine opE_of hI0 2 1 (.int (nI 0)) ⟨_, rfl⟩ (by decide) rfl (by decide) (fun d => ?_) (fun d => ?_)
    · simp (disch := first | omega | assumption | rfl) only [s22_0, s232_0, s232_23, c42_t, c42_f, c43_t, c43_f, c44_t, c44_f, c45_t, c45_f, c166_T, c166_F, c165_t, c165_f, c169_t, c169_f, c170_t, c170_f, c209_t, c209_f, c244_t, c244_f, aft_v, aft_n, aft_x1, z00, z10, cond_true, cond_false, eSc, eS, nI_add, nI_mul, nI_sub, nI_clamp, inbT, oltT, oltF, oleT, oleF, oeqT, oeqF, is01_0, is01_1, AI_q, AI_n, AL_q, AL_n, FI_q, FI_n, AI_ff, AI_fl, AI_la, AI_tt, FI_aa, FI_la, FI_fl, FI_tt, AL_ff, AL_aa, AL_fw, AL_tt]
    · simp (disch := first | omega | assumption | rfl) only [s22_0, s232_0, s232_23, c42_t, c42_f, c43_t, c43_f, c44_t, c44_f, c45_t, c45_f, c166_T, c166_F, c165_t, c165_f, c169_t, c169_f, c170_t, c170_f, c209_t, c209_f, c244_t, c244_f, aft_v, aft_n, aft_x1, z00, z10, cond_true, cond_false, eSc, eS, nI_add, nI_mul, nI_sub, nI_clamp, inbT, oltT, oltF, oleT, oleF, oeqT, oeqF, is01_0, is01_1, AI_q, AI_n, AL_q, AL_n, FI_q, FI_n, AI_ff, AI_fl, AI_la, AI_tt, FI_aa, FI_la, FI_fl, FI_tt, AL_ff, AL_aa, AL_fw, AL_tt]
  refine opV_of (.int (nI nS)) (wFI σ 31 0 (nI (nS + 1))) (fun z => wFI (wFI (wAL (wFI σ 31 0 (nI (nS + 1))) 145 0 z) 85 0 (nI 0)) 85 52 (nI (nS + 1))) ⟨_, rfl⟩ (fun d => ?_) (fun z d => ?_) (fun z => ?_) (fun z => rfl) (fun z => rfl) (fun z => Kp_eq rfl rfl)
  · simp (disch := first | omega | assumption | rfl) only [s22_0, s232_0, s232_23, c42_t, c42_f, c43_t, c43_f, c44_t, c44_f, c45_t, c45_f, c166_T, c166_F, c165_t, c165_f, c169_t, c169_f, c170_t, c170_f, c209_t, c209_f, c244_t, c244_f, aft_v, aft_n, aft_x1, z00, z10, cond_true, cond_false, nI_add, nI_mul, nI_sub, nI_clamp, inbT, oltT, oltF, oleT, oleF, oeqT, oeqF, is01_0, is01_1, AI_q, AI_n, AL_q, AL_n, FI_q, FI_n, AI_ff, AI_fl, AI_la, AI_tt, FI_aa, FI_la, FI_fl, FI_tt, AL_ff, AL_aa, AL_fw, AL_tt, eSc, Nat.add_sub_cancel]
  · simp (disch := first | omega | assumption | rfl) only [s22_0, s232_0, s232_23, c42_t, c42_f, c43_t, c43_f, c44_t, c44_f, c45_t, c45_f, c166_T, c166_F, c165_t, c165_f, c169_t, c169_f, c170_t, c170_f, c209_t, c209_f, c244_t, c244_f, aft_v, aft_n, aft_x1, z00, z10, cond_true, cond_false, nI_add, nI_mul, nI_sub, nI_clamp, inbT, oltT, oltF, oleT, oleF, oeqT, oeqF, is01_0, is01_1, AI_q, AI_n, AL_q, AL_n, FI_q, FI_n, AI_ff, AI_fl, AI_la, AI_tt, FI_aa, FI_la, FI_fl, FI_tt, AL_ff, AL_aa, AL_fw, AL_tt, eS, Nat.add_sub_cancel]
  · obtain ⟨g0, g1, g2, g3, g4, g5, g6, g7, g8, g9⟩ := @Inv_o σ z hI0
    exact ⟨g0, g1, g2, g3, ⟨⟨nS + 1, by omega, rfl, rfl⟩, ⟨nJ, hJ, eJ, eJc, hJo⟩, hPa⟩, g5, g6, g7, g8, g9⟩

set_option maxHeartbeats 2000000 in
theorem op_years {σ : PS} (hI : Inv σ) (a1 : Int32) : Op (fun d σ => Run false d 1 0 [some (.ref 0), some (.int a1)] [] σ) (fun d σ => Run false d 168 0 [some (.ref 85), some (.int a1)] [] σ) σ isI (fun E => if E = 1 then 1 else if E = 2 then 2 else 1) := by
  have hI0 := hI
  obtain ⟨⟨⟨nW, hW, eW, eWc⟩, ⟨nM, hM, eM, eMc⟩, eTr, eIs⟩, ⟨⟨nB, hB, eB, eBc, hBy⟩, eFa, eC10⟩, ⟨⟨nP, hP, eP, ePc, hTr⟩, hPk, hSo, hGr, hCo⟩, ⟨nD, hD, eD, eDc, hDe⟩, ⟨⟨nS, hS, eS, eSc⟩, ⟨nJ, hJ, eJ, eJc, hJo⟩, hPa⟩, ⟨nL, nQ, hL, hQ, eL, eLc, eQ, eQc, hLo, hNo, eFg⟩, ⟨nO, hO, eO, eOc, hOf, hOz⟩, ⟨nA, hA, eA, eAc, hSa⟩, ⟨hBi, hOr⟩, LS, hIL⟩ := hI
  by_cases h1 : IR 0 40 a1
  case neg =>
    refine opE_of hI0 1 1 (.int (nI 0)) ⟨_, rfl⟩ (by decide) rfl (by decide) (fun d => ?_) (fun d => ?_)
    · simp (disch := first | omega | assumption | rfl) only [s1_0, s1_4, s168_0, s168_13, s168_17, s168_41, c42_t, c42_f, c43_t, c43_f, c44_t, c44_f, c45_t, c45_f, c166_T, c166_F, c165_t, c165_f, c169_t, c169_f, c170_t, c170_f, c209_t, c209_f, c244_t, c244_f, aft_v, aft_n, aft_x1, z00, z10, cond_true, cond_false, eWc, eW, nI_add, nI_mul, nI_sub, nI_clamp, inbT, oltT, oltF, oleT, oleF, oeqT, oeqF, is01_0, is01_1, AI_q, AI_n, AL_q, AL_n, FI_q, FI_n, AI_ff, AI_fl, AI_la, AI_tt, FI_aa, FI_la, FI_fl, FI_tt, AL_ff, AL_aa, AL_fw, AL_tt]
    · simp (disch := first | omega | assumption | rfl) only [s1_0, s1_4, s168_0, s168_13, s168_17, s168_41, c42_t, c42_f, c43_t, c43_f, c44_t, c44_f, c45_t, c45_f, c166_T, c166_F, c165_t, c165_f, c169_t, c169_f, c170_t, c170_f, c209_t, c209_f, c244_t, c244_f, aft_v, aft_n, aft_x1, z00, z10, cond_true, cond_false, eWc, eW, nI_add, nI_mul, nI_sub, nI_clamp, inbT, oltT, oltF, oleT, oleF, oeqT, oeqF, is01_0, is01_1, AI_q, AI_n, AL_q, AL_n, FI_q, FI_n, AI_ff, AI_fl, AI_la, AI_tt, FI_aa, FI_la, FI_fl, FI_tt, AL_ff, AL_aa, AL_fw, AL_tt]
  obtain ⟨y, -, hy, rfl⟩ := id h1
  by_cases h2 : nW + y ≤ 40
  case neg =>
    refine opE_of hI0 2 2 (.int (nI 0)) ⟨_, rfl⟩ (by decide) rfl (by decide) (fun d => ?_) (fun d => ?_)
    · simp (disch := first | omega | assumption | rfl) only [s1_0, s1_4, s168_0, s168_13, s168_17, s168_41, c42_t, c42_f, c43_t, c43_f, c44_t, c44_f, c45_t, c45_f, c166_T, c166_F, c165_t, c165_f, c169_t, c169_f, c170_t, c170_f, c209_t, c209_f, c244_t, c244_f, aft_v, aft_n, aft_x1, z00, z10, cond_true, cond_false, eWc, eW, nI_add, nI_mul, nI_sub, nI_clamp, inbT, oltT, oltF, oleT, oleF, oeqT, oeqF, is01_0, is01_1, AI_q, AI_n, AL_q, AL_n, FI_q, FI_n, AI_ff, AI_fl, AI_la, AI_tt, FI_aa, FI_la, FI_fl, FI_tt, AL_ff, AL_aa, AL_fw, AL_tt]
    · simp (disch := first | omega | assumption | rfl) only [s1_0, s1_4, s168_0, s168_13, s168_17, s168_41, c42_t, c42_f, c43_t, c43_f, c44_t, c44_f, c45_t, c45_f, c166_T, c166_F, c165_t, c165_f, c169_t, c169_f, c170_t, c170_f, c209_t, c209_f, c244_t, c244_f, aft_v, aft_n, aft_x1, z00, z10, cond_true, cond_false, eWc, eW, nI_add, nI_mul, nI_sub, nI_clamp, inbT, oltT, oltF, oleT, oleF, oeqT, oeqF, is01_0, is01_1, AI_q, AI_n, AL_q, AL_n, FI_q, FI_n, AI_ff, AI_fl, AI_la, AI_tt, FI_aa, FI_la, FI_fl, FI_tt, AL_ff, AL_aa, AL_fw, AL_tt]
  refine opV_of (.int (nI (nW + y))) (wFI σ 0 0 (nI (nW + y))) (fun z => wFI (wFI (wAL (wFI σ 0 0 (nI (nW + y))) 145 0 z) 85 0 (nI 0)) 85 1 (nI (nW + y))) ⟨_, rfl⟩ (fun d => ?_) (fun z d => ?_) (fun z => ?_) (fun z => rfl) (fun z => rfl) (fun z => Kp_eq rfl rfl)
  · simp (disch := first | omega | assumption | rfl) only [s1_0, s1_4, s168_0, s168_13, s168_17, s168_41, c42_t, c42_f, c43_t, c43_f, c44_t, c44_f, c45_t, c45_f, c166_T, c166_F, c165_t, c165_f, c169_t, c169_f, c170_t, c170_f, c209_t, c209_f, c244_t, c244_f, aft_v, aft_n, aft_x1, z00, z10, cond_true, cond_false, nI_add, nI_mul, nI_sub, nI_clamp, inbT, oltT, oltF, oleT, oleF, oeqT, oeqF, is01_0, is01_1, AI_q, AI_n, AL_q, AL_n, FI_q, FI_n, AI_ff, AI_fl, AI_la, AI_tt, FI_aa, FI_la, FI_fl, FI_tt, AL_ff, AL_aa, AL_fw, AL_tt, eWc]
  · simp (disch := first | omega | assumption | rfl) only [s1_0, s1_4, s168_0, s168_13, s168_17, s168_41, c42_t, c42_f, c43_t, c43_f, c44_t, c44_f, c45_t, c45_f, c166_T, c166_F, c165_t, c165_f, c169_t, c169_f, c170_t, c170_f, c209_t, c209_f, c244_t, c244_f, aft_v, aft_n, aft_x1, z00, z10, cond_true, cond_false, nI_add, nI_mul, nI_sub, nI_clamp, inbT, oltT, oltF, oleT, oleF, oeqT, oeqF, is01_0, is01_1, AI_q, AI_n, AL_q, AL_n, FI_q, FI_n, AI_ff, AI_fl, AI_la, AI_tt, FI_aa, FI_la, FI_fl, FI_tt, AL_ff, AL_aa, AL_fw, AL_tt, eW]
  · obtain ⟨g0, g1, g2, g3, g4, g5, g6, g7, g8, g9⟩ := @Inv_o σ z hI0
    exact ⟨⟨⟨nW + y, h2, rfl, rfl⟩, ⟨nM, hM, eM, eMc⟩, eTr, eIs⟩, g1, g2, g3, g4, g5, g6, g7, g8, g9⟩

set_option maxHeartbeats 2000000 in
theorem op_paid {σ : PS} (hI : Inv σ) (a1 : Int32) : Op (fun d σ => Run false d 35 0 [some (.ref 0), some (.int a1)] [] σ) (fun d σ => Run false d 258 0 [some (.ref 85), some (.int a1)] [] σ) σ isI (fun E => if E = 3 then 1 else 1) := by
  have hI0 := hI
  obtain ⟨⟨⟨nW, hW, eW, eWc⟩, ⟨nM, hM, eM, eMc⟩, eTr, eIs⟩, ⟨⟨nB, hB, eB, eBc, hBy⟩, eFa, eC10⟩, ⟨⟨nP, hP, eP, ePc, hTr⟩, hPk, hSo, hGr, hCo⟩, ⟨nD, hD, eD, eDc, hDe⟩, ⟨⟨nS, hS, eS, eSc⟩, ⟨nJ, hJ, eJ, eJc, hJo⟩, hPa⟩, ⟨nL, nQ, hL, hQ, eL, eLc, eQ, eQc, hLo, hNo, eFg⟩, ⟨nO, hO, eO, eOc, hOf, hOz⟩, ⟨nA, hA, eA, eAc, hSa⟩, ⟨hBi, hOr⟩, LS, hIL⟩ := hI
  have H51_t := fun (d : Nat) (σ : PS) (a : Int32) => @c51_t d σ a nS
  have H51_f := fun (d : Nat) (σ : PS) (a : Int32) => @c51_f d σ a nS
  have H52_t := fun (d : Nat) (σ : PS) (a : Int32) => @c52_t d σ a nS
  have H52_f := fun (d : Nat) (σ : PS) (a : Int32) => @c52_f d σ a nS
  have H241_t := fun (d : Nat) (σ : PS) (a c : Int32) => @c241_t d σ a nS c
  have H241_f := fun (d : Nat) (σ : PS) (a c : Int32) => @c241_f d σ a nS c
  have HXnS := fun (d : Nat) (σ : PS) (a : Int32) => @c166_X d σ a nS
  have HYnS := fun (d : Nat) (σ : PS) (a : Int32) => @c166_Y d σ a nS
  have HNnS := fun (d : Nat) (σ : PS) (a : Int32) => @c166_N d σ a nS
  have HOnS := fun (d : Nat) (σ : PS) (a : Int32) => @c166_M d σ a nS
  by_cases h1 : IX nS a1
  case neg =>
    refine opE_of hI0 3 1 (.int (nI 0)) ⟨_, rfl⟩ (by decide) rfl (by decide) (fun d => ?_) (fun d => ?_)
    · simp (disch := first | omega | assumption | rfl) only [s35_0, s35_5, s258_0, s258_11, c42_t, c42_f, c43_t, c43_f, c44_t, c44_f, c45_t, c45_f, c166_T, c166_F, c165_t, c165_f, c169_t, c169_f, c170_t, c170_f, c209_t, c209_f, c244_t, c244_f, H51_t, H51_f, H52_t, H52_f, H241_t, H241_f, HXnS, HYnS, HNnS, HOnS, aft_v, aft_n, aft_x1, z00, z10, cond_true, cond_false, eSc, eS]
    · simp (disch := first | omega | assumption | rfl) only [s35_0, s35_5, s258_0, s258_11, c42_t, c42_f, c43_t, c43_f, c44_t, c44_f, c45_t, c45_f, c166_T, c166_F, c165_t, c165_f, c169_t, c169_f, c170_t, c170_f, c209_t, c209_f, c244_t, c244_f, H51_t, H51_f, H52_t, H52_f, H241_t, H241_f, HXnS, HYnS, HNnS, HOnS, aft_v, aft_n, aft_x1, z00, z10, cond_true, cond_false, eSc, eS]
  obtain ⟨c, hc, rfl⟩ := id h1
  refine opV_of (.int (AI σ 118 c)) (σ) (fun z => (wFI (wAL (σ) 145 0 z) 85 0 (nI 0))) ⟨_, rfl⟩ (fun d => ?_) (fun z d => ?_) (fun z => ?_) (fun z => rfl) (fun z => rfl) (fun z => Kp_eq rfl rfl)
  · simp (disch := first | omega | assumption | rfl) only [s35_0, s35_5, s258_0, s258_11, c42_t, c42_f, c43_t, c43_f, c44_t, c44_f, c45_t, c45_f, c166_T, c166_F, c165_t, c165_f, c169_t, c169_f, c170_t, c170_f, c209_t, c209_f, c244_t, c244_f, H51_t, H51_f, H52_t, H52_f, H241_t, H241_f, HXnS, HYnS, HNnS, HOnS, aft_v, aft_n, aft_x1, z00, z10, cond_true, cond_false, nI_add, nI_mul, nI_sub, nI_clamp, inbT, oltT, oltF, oleT, oleF, oeqT, oeqF, is01_0, is01_1, AI_q, AI_n, AL_q, AL_n, FI_q, FI_n, AI_ff, AI_fl, AI_la, AI_tt, FI_aa, FI_la, FI_fl, FI_tt, AL_ff, AL_aa, AL_fw, AL_tt, (hPa c (by omega))]
  · simp (disch := first | omega | assumption | rfl) only [s35_0, s35_5, s258_0, s258_11, c42_t, c42_f, c43_t, c43_f, c44_t, c44_f, c45_t, c45_f, c166_T, c166_F, c165_t, c165_f, c169_t, c169_f, c170_t, c170_f, c209_t, c209_f, c244_t, c244_f, H51_t, H51_f, H52_t, H52_f, H241_t, H241_f, HXnS, HYnS, HNnS, HOnS, aft_v, aft_n, aft_x1, z00, z10, cond_true, cond_false, nI_add, nI_mul, nI_sub, nI_clamp, inbT, oltT, oltF, oleT, oleF, oeqT, oeqF, is01_0, is01_1, AI_q, AI_n, AL_q, AL_n, FI_q, FI_n, AI_ff, AI_fl, AI_la, AI_tt, FI_aa, FI_la, FI_fl, FI_tt, AL_ff, AL_aa, AL_fw, AL_tt, ]
  · exact Inv_tn (Inv_o hI0)

set_option maxHeartbeats 2000000 in
theorem op_forged {σ : PS} (hI : Inv σ) (a1 : Int32) : Op (fun d σ => Run false d 30 0 [some (.ref 0), some (.int a1)] [] σ) (fun d σ => Run false d 250 0 [some (.ref 85), some (.int a1)] [] σ) σ isZ (fun E => if E = 3 then 1 else 1) := by
  have hI0 := hI
  obtain ⟨⟨⟨nW, hW, eW, eWc⟩, ⟨nM, hM, eM, eMc⟩, eTr, eIs⟩, ⟨⟨nB, hB, eB, eBc, hBy⟩, eFa, eC10⟩, ⟨⟨nP, hP, eP, ePc, hTr⟩, hPk, hSo, hGr, hCo⟩, ⟨nD, hD, eD, eDc, hDe⟩, ⟨⟨nS, hS, eS, eSc⟩, ⟨nJ, hJ, eJ, eJc, hJo⟩, hPa⟩, ⟨nL, nQ, hL, hQ, eL, eLc, eQ, eQc, hLo, hNo, eFg⟩, ⟨nO, hO, eO, eOc, hOf, hOz⟩, ⟨nA, hA, eA, eAc, hSa⟩, ⟨hBi, hOr⟩, LS, hIL⟩ := hI
  have HXnQ := fun (d : Nat) (σ : PS) (a : Int32) => @c166_X d σ a nQ
  have HYnQ := fun (d : Nat) (σ : PS) (a : Int32) => @c166_Y d σ a nQ
  have HNnQ := fun (d : Nat) (σ : PS) (a : Int32) => @c166_N d σ a nQ
  have HOnQ := fun (d : Nat) (σ : PS) (a : Int32) => @c166_M d σ a nQ
  by_cases h1 : IX nQ a1
  case neg =>
    refine opE_of hI0 3 1 (.int (nI 0)) (Or.inl rfl) (by decide) rfl (by decide) (fun d => ?_) (fun d => ?_)
    · simp (disch := first | omega | assumption | rfl) only [s30_0, s30_11, s250_0, s250_17, s250_21, c42_t, c42_f, c43_t, c43_f, c44_t, c44_f, c45_t, c45_f, c166_T, c166_F, c165_t, c165_f, c169_t, c169_f, c170_t, c170_f, c209_t, c209_f, c244_t, c244_f, HXnQ, HYnQ, HNnQ, HOnQ, aft_v, aft_n, aft_x1, z00, z10, cond_true, cond_false, eQc, eQ, c46_t, c46_f, AI_q, AI_n, AL_q, AL_n, FI_q, FI_n, AI_ff, AI_fl, AI_la, AI_tt, FI_aa, FI_la, FI_fl, FI_tt, AL_ff, AL_aa, AL_fw, AL_tt]
    · simp (disch := first | omega | assumption | rfl) only [s30_0, s30_11, s250_0, s250_17, s250_21, c42_t, c42_f, c43_t, c43_f, c44_t, c44_f, c45_t, c45_f, c166_T, c166_F, c165_t, c165_f, c169_t, c169_f, c170_t, c170_f, c209_t, c209_f, c244_t, c244_f, HXnQ, HYnQ, HNnQ, HOnQ, aft_v, aft_n, aft_x1, z00, z10, cond_true, cond_false, eQc, eQ, c46_t, c46_f, AI_q, AI_n, AL_q, AL_n, FI_q, FI_n, AI_ff, AI_fl, AI_la, AI_tt, FI_aa, FI_la, FI_fl, FI_tt, AL_ff, AL_aa, AL_fw, AL_tt]
  obtain ⟨c, hc, rfl⟩ := id h1
  obtain ⟨-, -, -, -, -, -, -, -, -, -, f1, f2, f3, f4⟩ := hNo c hc
  have f5 : AI σ 132 c = nI 0 ∨ AI σ 132 c = nI 1 := by
    have : f2 = 0 ∨ f2 = 1 := by omega
    rcases this with rfl | rfl
    · exact Or.inl f4
    · exact Or.inr f4
  have f6 : is01 (AI σ 132 c) = true := is01_of f5
  refine opV_of (.int (AI σ 132 c)) (σ) (fun z => (wFI (wAL (σ) 145 0 z) 85 0 (nI 0))) (by rcases f5 with f | f <;> rw [f]; exact Or.inl rfl; exact Or.inr rfl) (fun d => ?_) (fun z d => ?_) (fun z => ?_) (fun z => rfl) (fun z => rfl) (fun z => Kp_eq rfl rfl)
  · simp (disch := first | omega | assumption | rfl) only [s30_0, s30_11, s250_0, s250_17, s250_21, c42_t, c42_f, c43_t, c43_f, c44_t, c44_f, c45_t, c45_f, c166_T, c166_F, c165_t, c165_f, c169_t, c169_f, c170_t, c170_f, c209_t, c209_f, c244_t, c244_f, HXnQ, HYnQ, HNnQ, HOnQ, aft_v, aft_n, aft_x1, z00, z10, cond_true, cond_false, nI_add, nI_mul, nI_sub, nI_clamp, inbT, oltT, oltF, oleT, oleF, oeqT, oeqF, is01_0, is01_1, AI_q, AI_n, AL_q, AL_n, FI_q, FI_n, AI_ff, AI_fl, AI_la, AI_tt, FI_aa, FI_la, FI_fl, FI_tt, AL_ff, AL_aa, AL_fw, AL_tt, eQc, f1, f6]
  · simp (disch := first | omega | assumption | rfl) only [s30_0, s30_11, s250_0, s250_17, s250_21, c42_t, c42_f, c43_t, c43_f, c44_t, c44_f, c45_t, c45_f, c166_T, c166_F, c165_t, c165_f, c169_t, c169_f, c170_t, c170_f, c209_t, c209_f, c244_t, c244_f, HXnQ, HYnQ, HNnQ, HOnQ, aft_v, aft_n, aft_x1, z00, z10, cond_true, cond_false, nI_add, nI_mul, nI_sub, nI_clamp, inbT, oltT, oltF, oleT, oleF, oeqT, oeqF, is01_0, is01_1, AI_q, AI_n, AL_q, AL_n, FI_q, FI_n, AI_ff, AI_fl, AI_la, AI_tt, FI_aa, FI_la, FI_fl, FI_tt, AL_ff, AL_aa, AL_fw, AL_tt, eQ, f6]
  · exact Inv_tn (Inv_o hI0)

set_option maxHeartbeats 2000000 in
theorem op_orphans {σ : PS} (hI : Inv σ) (a1 a2 a3 : Int32) : Op (fun d σ => Run false d 26 0 [some (.ref 0), some (.int a1), some (.int a2), some (.int a3), none, none] [] σ) (fun d σ => Run false d 243 0 [some (.ref 85), some (.int a1), some (.int a2), some (.int a3), none] [] σ) σ isI (fun E => if E = 1 then 1 else 1) := by
  have hI0 := hI
  obtain ⟨⟨⟨nW, hW, eW, eWc⟩, ⟨nM, hM, eM, eMc⟩, eTr, eIs⟩, ⟨⟨nB, hB, eB, eBc, hBy⟩, eFa, eC10⟩, ⟨⟨nP, hP, eP, ePc, hTr⟩, hPk, hSo, hGr, hCo⟩, ⟨nD, hD, eD, eDc, hDe⟩, ⟨⟨nS, hS, eS, eSc⟩, ⟨nJ, hJ, eJ, eJc, hJo⟩, hPa⟩, ⟨nL, nQ, hL, hQ, eL, eLc, eQ, eQc, hLo, hNo, eFg⟩, ⟨nO, hO, eO, eOc, hOf, hOz⟩, ⟨nA, hA, eA, eAc, hSa⟩, ⟨hBi, hOr⟩, LS, hIL⟩ := hI
  by_cases h1 : IR 0 4 a1
  case neg =>
    refine opE_of hI0 1 1 (.int (nI 0)) ⟨_, rfl⟩ (by decide) rfl (by decide) (fun d => ?_) (fun d => ?_)
    · simp (disch := first | omega | assumption | rfl) only [s26_0, s26_4, s26_8, s26_16, s243_0, s243_10, s243_17, s243_28, s243_40, c42_t, c42_f, c43_t, c43_f, c44_t, c44_f, c45_t, c45_f, c166_T, c166_F, c165_t, c165_f, c169_t, c169_f, c170_t, c170_f, c209_t, c209_f, c244_t, c244_f, aft_v, aft_n, aft_x1, z00, z10, cond_true, cond_false, AI_q, AI_n, AL_q, AL_n, FI_q, FI_n, AI_ff, AI_fl, AI_la, AI_tt, FI_aa, FI_la, FI_fl, FI_tt, AL_ff, AL_aa, AL_fw, AL_tt]
    · simp (disch := first | omega | assumption | rfl) only [s26_0, s26_4, s26_8, s26_16, s243_0, s243_10, s243_17, s243_28, s243_40, c42_t, c42_f, c43_t, c43_f, c44_t, c44_f, c45_t, c45_f, c166_T, c166_F, c165_t, c165_f, c169_t, c169_f, c170_t, c170_f, c209_t, c209_f, c244_t, c244_f, aft_v, aft_n, aft_x1, z00, z10, cond_true, cond_false, AI_q, AI_n, AL_q, AL_n, FI_q, FI_n, AI_ff, AI_fl, AI_la, AI_tt, FI_aa, FI_la, FI_fl, FI_tt, AL_ff, AL_aa, AL_fw, AL_tt]
  by_cases h2 : IR 0 40 a2
  case neg =>
    refine opE_of hI0 1 1 (.int (nI 0)) ⟨_, rfl⟩ (by decide) rfl (by decide) (fun d => ?_) (fun d => ?_)
    · simp (disch := first | omega | assumption | rfl) only [s26_0, s26_4, s26_8, s26_16, s243_0, s243_10, s243_17, s243_28, s243_40, c42_t, c42_f, c43_t, c43_f, c44_t, c44_f, c45_t, c45_f, c166_T, c166_F, c165_t, c165_f, c169_t, c169_f, c170_t, c170_f, c209_t, c209_f, c244_t, c244_f, aft_v, aft_n, aft_x1, z00, z10, cond_true, cond_false, AI_q, AI_n, AL_q, AL_n, FI_q, FI_n, AI_ff, AI_fl, AI_la, AI_tt, FI_aa, FI_la, FI_fl, FI_tt, AL_ff, AL_aa, AL_fw, AL_tt]
    · simp (disch := first | omega | assumption | rfl) only [s26_0, s26_4, s26_8, s26_16, s243_0, s243_10, s243_17, s243_28, s243_40, c42_t, c42_f, c43_t, c43_f, c44_t, c44_f, c45_t, c45_f, c166_T, c166_F, c165_t, c165_f, c169_t, c169_f, c170_t, c170_f, c209_t, c209_f, c244_t, c244_f, aft_v, aft_n, aft_x1, z00, z10, cond_true, cond_false, AI_q, AI_n, AL_q, AL_n, FI_q, FI_n, AI_ff, AI_fl, AI_la, AI_tt, FI_aa, FI_la, FI_fl, FI_tt, AL_ff, AL_aa, AL_fw, AL_tt]
  by_cases h3 : IR 0 1000000 a3
  case neg =>
    refine opE_of hI0 1 1 (.int (nI 0)) ⟨_, rfl⟩ (by decide) rfl (by decide) (fun d => ?_) (fun d => ?_)
    · simp (disch := first | omega | assumption | rfl) only [s26_0, s26_4, s26_8, s26_16, s243_0, s243_10, s243_17, s243_28, s243_40, c42_t, c42_f, c43_t, c43_f, c44_t, c44_f, c45_t, c45_f, c166_T, c166_F, c165_t, c165_f, c169_t, c169_f, c170_t, c170_f, c209_t, c209_f, c244_t, c244_f, aft_v, aft_n, aft_x1, z00, z10, cond_true, cond_false, AI_q, AI_n, AL_q, AL_n, FI_q, FI_n, AI_ff, AI_fl, AI_la, AI_tt, FI_aa, FI_la, FI_fl, FI_tt, AL_ff, AL_aa, AL_fw, AL_tt]
    · simp (disch := first | omega | assumption | rfl) only [s26_0, s26_4, s26_8, s26_16, s243_0, s243_10, s243_17, s243_28, s243_40, c42_t, c42_f, c43_t, c43_f, c44_t, c44_f, c45_t, c45_f, c166_T, c166_F, c165_t, c165_f, c169_t, c169_f, c170_t, c170_f, c209_t, c209_f, c244_t, c244_f, aft_v, aft_n, aft_x1, z00, z10, cond_true, cond_false, AI_q, AI_n, AL_q, AL_n, FI_q, FI_n, AI_ff, AI_fl, AI_la, AI_tt, FI_aa, FI_la, FI_fl, FI_tt, AL_ff, AL_aa, AL_fw, AL_tt]
  obtain ⟨s, -, hs, rfl⟩ := id h1
  obtain ⟨y, -, hy, rfl⟩ := id h2
  have e41 : s * 41 + y = 41 * s + y := by omega
  refine opV_of (.int (AI σ 117 (41 * s + y))) (wAI σ 84 (41 * s + y) a3) (fun z => wAI (wFI (wAL (wAI σ 84 (41 * s + y) a3) 145 0 z) 85 0 (nI 0)) 117 (41 * s + y) a3) ⟨_, rfl⟩ (fun d => ?_) (fun z d => ?_) (fun z => ?_) (fun z => rfl) (fun z => rfl) (fun z => Kp_eq rfl rfl)
  · simp (disch := first | omega | assumption | rfl) only [s26_0, s26_4, s26_8, s26_16, s243_0, s243_10, s243_17, s243_28, s243_40, c42_t, c42_f, c43_t, c43_f, c44_t, c44_f, c45_t, c45_f, c166_T, c166_F, c165_t, c165_f, c169_t, c169_f, c170_t, c170_f, c209_t, c209_f, c244_t, c244_f, aft_v, aft_n, aft_x1, z00, z10, cond_true, cond_false, nI_add, nI_mul, nI_sub, nI_clamp, inbT, oltT, oltF, oleT, oleF, oeqT, oeqF, is01_0, is01_1, AI_q, AI_n, AL_q, AL_n, FI_q, FI_n, AI_ff, AI_fl, AI_la, AI_tt, FI_aa, FI_la, FI_fl, FI_tt, AL_ff, AL_aa, AL_fw, AL_tt, e41, (hOr (41 * s + y) (by omega)).1]
  · simp (disch := first | omega | assumption | rfl) only [s26_0, s26_4, s26_8, s26_16, s243_0, s243_10, s243_17, s243_28, s243_40, c42_t, c42_f, c43_t, c43_f, c44_t, c44_f, c45_t, c45_f, c166_T, c166_F, c165_t, c165_f, c169_t, c169_f, c170_t, c170_f, c209_t, c209_f, c244_t, c244_f, aft_v, aft_n, aft_x1, z00, z10, cond_true, cond_false, nI_add, nI_mul, nI_sub, nI_clamp, inbT, oltT, oltF, oleT, oleF, oeqT, oeqF, is01_0, is01_1, AI_q, AI_n, AL_q, AL_n, FI_q, FI_n, AI_ff, AI_fl, AI_la, AI_tt, FI_aa, FI_la, FI_fl, FI_tt, AL_ff, AL_aa, AL_fw, AL_tt, ]
  · obtain ⟨g0, g1, g2, g3, g4, g5, g6, g7, g8, g9⟩ := @Inv_o σ z hI0
    refine ⟨g0, g1, g2, g3, g4, g5, g6, g7, ⟨g8.1, fun j hj => ?_⟩, g9⟩
    by_cases q : j = 41 * s + y
    · subst q
      simp (disch := omega) only [AI_q, AI_n, AL_q, AL_n, FI_q, FI_n, AI_ff, AI_fl, AI_la, AI_tt, FI_aa, FI_la, FI_fl, FI_tt, AL_ff, AL_aa, AL_fw, AL_tt]
      exact ⟨rfl, h3⟩
    · have := hOr j hj
      simp (disch := omega) only [AI_q, AI_n, AL_q, AL_n, FI_q, FI_n, AI_ff, AI_fl, AI_la, AI_tt, FI_aa, FI_la, FI_fl, FI_tt, AL_ff, AL_aa, AL_fw, AL_tt]
      exact this

set_option maxHeartbeats 2000000 in
theorem op_declare {σ : PS} (hI : Inv σ) (a1 a2 a3 a4 : Int32) : Op (fun d σ => Run false d 14 0 [some (.ref 0), some (.int a1), some (.int a2), some (.int a3), some (.int a4)] [] σ) (fun d σ => Run false d 218 0 [some (.ref 85), some (.int a1), some (.int a2), some (.int a3), some (.int a4)] [] σ) σ isI (fun E => if E = 4 then 1 else if E = 1 then 2 else 1) := by
  have hI0 := hI
  obtain ⟨⟨⟨nW, hW, eW, eWc⟩, ⟨nM, hM, eM, eMc⟩, eTr, eIs⟩, ⟨⟨nB, hB, eB, eBc, hBy⟩, eFa, eC10⟩, ⟨⟨nP, hP, eP, ePc, hTr⟩, hPk, hSo, hGr, hCo⟩, ⟨nD, hD, eD, eDc, hDe⟩, ⟨⟨nS, hS, eS, eSc⟩, ⟨nJ, hJ, eJ, eJc, hJo⟩, hPa⟩, ⟨nL, nQ, hL, hQ, eL, eLc, eQ, eQc, hLo, hNo, eFg⟩, ⟨nO, hO, eO, eOc, hOf, hOz⟩, ⟨nA, hA, eA, eAc, hSa⟩, ⟨hBi, hOr⟩, LS, hIL⟩ := hI
  have H48_t := fun (d : Nat) (σ : PS) (a : Int32) => @c48_t d σ a nM
  have H48_f := fun (d : Nat) (σ : PS) (a : Int32) => @c48_f d σ a nM
  have H206_t := fun (d : Nat) (σ : PS) (a : Int32) => @c206_t d σ a nM
  have H206_f := fun (d : Nat) (σ : PS) (a : Int32) => @c206_f d σ a nM
  have HXnM := fun (d : Nat) (σ : PS) (a : Int32) => @c166_X d σ a nM
  have HYnM := fun (d : Nat) (σ : PS) (a : Int32) => @c166_Y d σ a nM
  have HNnM := fun (d : Nat) (σ : PS) (a : Int32) => @c166_N d σ a nM
  have HOnM := fun (d : Nat) (σ : PS) (a : Int32) => @c166_M d σ a nM
  by_cases h1 : IX nM a1
  case neg =>
    refine opE_of hI0 4 1 (.int (nI 0)) ⟨_, rfl⟩ (by decide) rfl (by decide) (fun d => ?_) (fun d => ?_)
    · simp (disch := first | omega | assumption | rfl) only [s14_0, s14_5, s14_9, s14_18, s14_26, s14_45, s218_0, s218_10, s218_18, s218_30, s218_42, s218_54, s77_0, c42_t, c42_f, c43_t, c43_f, c44_t, c44_f, c45_t, c45_f, c166_T, c166_F, c165_t, c165_f, c169_t, c169_f, c170_t, c170_f, c209_t, c209_f, c244_t, c244_f, H48_t, H48_f, H206_t, H206_f, HXnM, HYnM, HNnM, HOnM, aft_v, aft_n, aft_x1, z00, z10, cond_true, cond_false, eWc, eW, eMc, AI_q, AI_n, AL_q, AL_n, FI_q, FI_n, AI_ff, AI_fl, AI_la, AI_tt, FI_aa, FI_la, FI_fl, FI_tt, AL_ff, AL_aa, AL_fw, AL_tt]
    · simp (disch := first | omega | assumption | rfl) only [s14_0, s14_5, s14_9, s14_18, s14_26, s14_45, s218_0, s218_10, s218_18, s218_30, s218_42, s218_54, s77_0, c42_t, c42_f, c43_t, c43_f, c44_t, c44_f, c45_t, c45_f, c166_T, c166_F, c165_t, c165_f, c169_t, c169_f, c170_t, c170_f, c209_t, c209_f, c244_t, c244_f, H48_t, H48_f, H206_t, H206_f, HXnM, HYnM, HNnM, HOnM, aft_v, aft_n, aft_x1, z00, z10, cond_true, cond_false, eWc, eW, eMc, AI_q, AI_n, AL_q, AL_n, FI_q, FI_n, AI_ff, AI_fl, AI_la, AI_tt, FI_aa, FI_la, FI_fl, FI_tt, AL_ff, AL_aa, AL_fw, AL_tt]
  by_cases h2 : IR 0 4 a2
  case neg =>
    refine opE_of hI0 1 2 (.int (nI 0)) ⟨_, rfl⟩ (by decide) rfl (by decide) (fun d => ?_) (fun d => ?_)
    · simp (disch := first | omega | assumption | rfl) only [s14_0, s14_5, s14_9, s14_18, s14_26, s14_45, s218_0, s218_10, s218_18, s218_30, s218_42, s218_54, s77_0, c42_t, c42_f, c43_t, c43_f, c44_t, c44_f, c45_t, c45_f, c166_T, c166_F, c165_t, c165_f, c169_t, c169_f, c170_t, c170_f, c209_t, c209_f, c244_t, c244_f, H48_t, H48_f, H206_t, H206_f, HXnM, HYnM, HNnM, HOnM, aft_v, aft_n, aft_x1, z00, z10, cond_true, cond_false, eWc, eW, eMc, AI_q, AI_n, AL_q, AL_n, FI_q, FI_n, AI_ff, AI_fl, AI_la, AI_tt, FI_aa, FI_la, FI_fl, FI_tt, AL_ff, AL_aa, AL_fw, AL_tt]
    · simp (disch := first | omega | assumption | rfl) only [s14_0, s14_5, s14_9, s14_18, s14_26, s14_45, s218_0, s218_10, s218_18, s218_30, s218_42, s218_54, s77_0, c42_t, c42_f, c43_t, c43_f, c44_t, c44_f, c45_t, c45_f, c166_T, c166_F, c165_t, c165_f, c169_t, c169_f, c170_t, c170_f, c209_t, c209_f, c244_t, c244_f, H48_t, H48_f, H206_t, H206_f, HXnM, HYnM, HNnM, HOnM, aft_v, aft_n, aft_x1, z00, z10, cond_true, cond_false, eWc, eW, eMc, AI_q, AI_n, AL_q, AL_n, FI_q, FI_n, AI_ff, AI_fl, AI_la, AI_tt, FI_aa, FI_la, FI_fl, FI_tt, AL_ff, AL_aa, AL_fw, AL_tt]
  by_cases h3 : IR 0 nW a3
  case neg =>
    refine opE_of hI0 1 2 (.int (nI 0)) ⟨_, rfl⟩ (by decide) rfl (by decide) (fun d => ?_) (fun d => ?_)
    · simp (disch := first | omega | assumption | rfl) only [s14_0, s14_5, s14_9, s14_18, s14_26, s14_45, s218_0, s218_10, s218_18, s218_30, s218_42, s218_54, s77_0, c42_t, c42_f, c43_t, c43_f, c44_t, c44_f, c45_t, c45_f, c166_T, c166_F, c165_t, c165_f, c169_t, c169_f, c170_t, c170_f, c209_t, c209_f, c244_t, c244_f, H48_t, H48_f, H206_t, H206_f, HXnM, HYnM, HNnM, HOnM, aft_v, aft_n, aft_x1, z00, z10, cond_true, cond_false, eWc, eW, eMc, AI_q, AI_n, AL_q, AL_n, FI_q, FI_n, AI_ff, AI_fl, AI_la, AI_tt, FI_aa, FI_la, FI_fl, FI_tt, AL_ff, AL_aa, AL_fw, AL_tt]
    · simp (disch := first | omega | assumption | rfl) only [s14_0, s14_5, s14_9, s14_18, s14_26, s14_45, s218_0, s218_10, s218_18, s218_30, s218_42, s218_54, s77_0, c42_t, c42_f, c43_t, c43_f, c44_t, c44_f, c45_t, c45_f, c166_T, c166_F, c165_t, c165_f, c169_t, c169_f, c170_t, c170_f, c209_t, c209_f, c244_t, c244_f, H48_t, H48_f, H206_t, H206_f, HXnM, HYnM, HNnM, HOnM, aft_v, aft_n, aft_x1, z00, z10, cond_true, cond_false, eWc, eW, eMc, AI_q, AI_n, AL_q, AL_n, FI_q, FI_n, AI_ff, AI_fl, AI_la, AI_tt, FI_aa, FI_la, FI_fl, FI_tt, AL_ff, AL_aa, AL_fw, AL_tt]
  by_cases h4 : IR 0 10000000 a4
  case neg =>
    refine opE_of hI0 1 2 (.int (nI 0)) ⟨_, rfl⟩ (by decide) rfl (by decide) (fun d => ?_) (fun d => ?_)
    · simp (disch := first | omega | assumption | rfl) only [s14_0, s14_5, s14_9, s14_18, s14_26, s14_45, s218_0, s218_10, s218_18, s218_30, s218_42, s218_54, s77_0, c42_t, c42_f, c43_t, c43_f, c44_t, c44_f, c45_t, c45_f, c166_T, c166_F, c165_t, c165_f, c169_t, c169_f, c170_t, c170_f, c209_t, c209_f, c244_t, c244_f, H48_t, H48_f, H206_t, H206_f, HXnM, HYnM, HNnM, HOnM, aft_v, aft_n, aft_x1, z00, z10, cond_true, cond_false, eWc, eW, eMc, AI_q, AI_n, AL_q, AL_n, FI_q, FI_n, AI_ff, AI_fl, AI_la, AI_tt, FI_aa, FI_la, FI_fl, FI_tt, AL_ff, AL_aa, AL_fw, AL_tt]
    · simp (disch := first | omega | assumption | rfl) only [s14_0, s14_5, s14_9, s14_18, s14_26, s14_45, s218_0, s218_10, s218_18, s218_30, s218_42, s218_54, s77_0, c42_t, c42_f, c43_t, c43_f, c44_t, c44_f, c45_t, c45_f, c166_T, c166_F, c165_t, c165_f, c169_t, c169_f, c170_t, c170_f, c209_t, c209_f, c244_t, c244_f, H48_t, H48_f, H206_t, H206_f, HXnM, HYnM, HNnM, HOnM, aft_v, aft_n, aft_x1, z00, z10, cond_true, cond_false, eWc, eW, eMc, AI_q, AI_n, AL_q, AL_n, FI_q, FI_n, AI_ff, AI_fl, AI_la, AI_tt, FI_aa, FI_la, FI_fl, FI_tt, AL_ff, AL_aa, AL_fw, AL_tt]
  obtain ⟨m, hm, rfl⟩ := id h1
  obtain ⟨s, -, hs, rfl⟩ := id h2
  obtain ⟨y, -, hy, rfl⟩ := id h3
  obtain ⟨k, -, hk, rfl⟩ := id h4
  by_cases hD2 : nD < 200
  case neg =>
    refine opV_of (.int (-1 : Int32)) (σ) (fun z => (wFI (wAL (σ) 145 0 z) 85 0 (nI 0))) ⟨_, rfl⟩ (fun d => ?_) (fun z d => ?_) (fun z => ?_) (fun z => rfl) (fun z => rfl) (fun z => Kp_eq rfl rfl)
    · simp (disch := first | omega | assumption | rfl) only [s14_0, s14_5, s14_9, s14_18, s14_26, s14_45, s218_0, s218_10, s218_18, s218_30, s218_42, s218_54, s77_0, c42_t, c42_f, c43_t, c43_f, c44_t, c44_f, c45_t, c45_f, c166_T, c166_F, c165_t, c165_f, c169_t, c169_f, c170_t, c170_f, c209_t, c209_f, c244_t, c244_f, H48_t, H48_f, H206_t, H206_f, HXnM, HYnM, HNnM, HOnM, aft_v, aft_n, aft_x1, z00, z10, cond_true, cond_false, nI_add, nI_mul, nI_sub, nI_clamp, inbT, oltT, oltF, oleT, oleF, oeqT, oeqF, is01_0, is01_1, AI_q, AI_n, AL_q, AL_n, FI_q, FI_n, AI_ff, AI_fl, AI_la, AI_tt, FI_aa, FI_la, FI_fl, FI_tt, AL_ff, AL_aa, AL_fw, AL_tt, eDc, eWc]
    · simp (disch := first | omega | assumption | rfl) only [s14_0, s14_5, s14_9, s14_18, s14_26, s14_45, s218_0, s218_10, s218_18, s218_30, s218_42, s218_54, s77_0, c42_t, c42_f, c43_t, c43_f, c44_t, c44_f, c45_t, c45_f, c166_T, c166_F, c165_t, c165_f, c169_t, c169_f, c170_t, c170_f, c209_t, c209_f, c244_t, c244_f, H48_t, H48_f, H206_t, H206_f, HXnM, HYnM, HNnM, HOnM, aft_v, aft_n, aft_x1, z00, z10, cond_true, cond_false, nI_add, nI_mul, nI_sub, nI_clamp, inbT, oltT, oltF, oleT, oleF, oeqT, oeqF, is01_0, is01_1, AI_q, AI_n, AL_q, AL_n, FI_q, FI_n, AI_ff, AI_fl, AI_la, AI_tt, FI_aa, FI_la, FI_fl, FI_tt, AL_ff, AL_aa, AL_fw, AL_tt, eD, eW]
    · exact Inv_tn (Inv_o hI0)
  refine opV_of (.int (nI (nD + 1))) (wFI (wAI (wAI (wAI (wAI σ 27 nD (nI (m * 5 + s))) 28 nD (nI y)) 29 nD (nI k)) 30 nD (nI nW)) 26 0 (nI (nD + 1))) (fun z => wFI (wAI (wAI (wAI (wAI (wAI (wFI (wAL (wFI (wAI (wAI (wAI (wAI σ 27 nD (nI (m * 5 + s))) 28 nD (nI y)) 29 nD (nI k)) 30 nD (nI nW)) 26 0 (nI (nD + 1))) 145 0 z) 85 0 (nI 0)) 105 nD (nI m)) 106 nD (nI s)) 107 nD (nI y)) 108 nD (nI nW)) 109 nD (nI k)) 85 39 (nI (nD + 1))) ⟨_, rfl⟩ (fun d => ?_) (fun z d => ?_) (fun z => ?_) (fun z => rfl) (fun z => rfl) (fun z => Kp_eq rfl rfl)
  · simp (disch := first | omega | assumption | rfl) only [s14_0, s14_5, s14_9, s14_18, s14_26, s14_45, s218_0, s218_10, s218_18, s218_30, s218_42, s218_54, s77_0, c42_t, c42_f, c43_t, c43_f, c44_t, c44_f, c45_t, c45_f, c166_T, c166_F, c165_t, c165_f, c169_t, c169_f, c170_t, c170_f, c209_t, c209_f, c244_t, c244_f, H48_t, H48_f, H206_t, H206_f, HXnM, HYnM, HNnM, HOnM, aft_v, aft_n, aft_x1, z00, z10, cond_true, cond_false, nI_add, nI_mul, nI_sub, nI_clamp, inbT, oltT, oltF, oleT, oleF, oeqT, oeqF, is01_0, is01_1, AI_q, AI_n, AL_q, AL_n, FI_q, FI_n, AI_ff, AI_fl, AI_la, AI_tt, FI_aa, FI_la, FI_fl, FI_tt, AL_ff, AL_aa, AL_fw, AL_tt, eDc, eWc]
  · simp (disch := first | omega | assumption | rfl) only [s14_0, s14_5, s14_9, s14_18, s14_26, s14_45, s218_0, s218_10, s218_18, s218_30, s218_42, s218_54, s77_0, c42_t, c42_f, c43_t, c43_f, c44_t, c44_f, c45_t, c45_f, c166_T, c166_F, c165_t, c165_f, c169_t, c169_f, c170_t, c170_f, c209_t, c209_f, c244_t, c244_f, H48_t, H48_f, H206_t, H206_f, HXnM, HYnM, HNnM, HOnM, aft_v, aft_n, aft_x1, z00, z10, cond_true, cond_false, nI_add, nI_mul, nI_sub, nI_clamp, inbT, oltT, oltF, oleT, oleF, oeqT, oeqF, is01_0, is01_1, AI_q, AI_n, AL_q, AL_n, FI_q, FI_n, AI_ff, AI_fl, AI_la, AI_tt, FI_aa, FI_la, FI_fl, FI_tt, AL_ff, AL_aa, AL_fw, AL_tt, eD, eW]
  · obtain ⟨g0, g1, g2, g3, g4, g5, g6, g7, g8, g9⟩ := @Inv_o σ z hI0
    refine ⟨g0, g1, g2, ⟨nD + 1, by omega, rfl, rfl, fun j hj => ?_⟩, g4, g5, g6, g7, g8, g9⟩
    rcases Nat.lt_or_ge j nD with q | q
    · have := hDe j q
      simp (disch := omega) only [AI_q, AI_n, AL_q, AL_n, FI_q, FI_n, AI_ff, AI_fl, AI_la, AI_tt, FI_aa, FI_la, FI_fl, FI_tt, AL_ff, AL_aa, AL_fw, AL_tt]
      exact this
    · have : j = nD := by omega
      subst this
      refine ⟨m, s, y, nW, k, by omega, by omega, by omega, by omega, by omega, ?_⟩
      simp (disch := omega) only [AI_q, AI_n, AL_q, AL_n, FI_q, FI_n, AI_ff, AI_fl, AI_la, AI_tt, FI_aa, FI_la, FI_fl, FI_tt, AL_ff, AL_aa, AL_fw, AL_tt, and_self]

set_option maxHeartbeats 2000000 in
theorem op_join {σ : PS} (hI : Inv σ) (a1 a2 a3 : Int32) : Op (fun d σ => Run false d 23 0 [some (.ref 0), some (.int a1), some (.int a2), some (.int a3)] [] σ) (fun d σ => Run false d 233 0 [some (.ref 85), some (.int a1), some (.int a2), some (.int a3)] [] σ) σ isI (fun E => if E = 4 then 1 else if E = 3 then 2 else if E = 1 then 3 else 1) := by
  have hI0 := hI
  obtain ⟨⟨⟨nW, hW, eW, eWc⟩, ⟨nM, hM, eM, eMc⟩, eTr, eIs⟩, ⟨⟨nB, hB, eB, eBc, hBy⟩, eFa, eC10⟩, ⟨⟨nP, hP, eP, ePc, hTr⟩, hPk, hSo, hGr, hCo⟩, ⟨nD, hD, eD, eDc, hDe⟩, ⟨⟨nS, hS, eS, eSc⟩, ⟨nJ, hJ, eJ, eJc, hJo⟩, hPa⟩, ⟨nL, nQ, hL, hQ, eL, eLc, eQ, eQc, hLo, hNo, eFg⟩, ⟨nO, hO, eO, eOc, hOf, hOz⟩, ⟨nA, hA, eA, eAc, hSa⟩, ⟨hBi, hOr⟩, LS, hIL⟩ := hI
  have H48_t := fun (d : Nat) (σ : PS) (a : Int32) => @c48_t d σ a nM
  have H48_f := fun (d : Nat) (σ : PS) (a : Int32) => @c48_f d σ a nM
  have H206_t := fun (d : Nat) (σ : PS) (a : Int32) => @c206_t d σ a nM
  have H206_f := fun (d : Nat) (σ : PS) (a : Int32) => @c206_f d σ a nM
  have HXnM := fun (d : Nat) (σ : PS) (a : Int32) => @c166_X d σ a nM
  have HYnM := fun (d : Nat) (σ : PS) (a : Int32) => @c166_Y d σ a nM
  have HNnM := fun (d : Nat) (σ : PS) (a : Int32) => @c166_N d σ a nM
  have HOnM := fun (d : Nat) (σ : PS) (a : Int32) => @c166_M d σ a nM
  have H51_t := fun (d : Nat) (σ : PS) (a : Int32) => @c51_t d σ a nS
  have H51_f := fun (d : Nat) (σ : PS) (a : Int32) => @c51_f d σ a nS
  have H52_t := fun (d : Nat) (σ : PS) (a : Int32) => @c52_t d σ a nS
  have H52_f := fun (d : Nat) (σ : PS) (a : Int32) => @c52_f d σ a nS
  have H241_t := fun (d : Nat) (σ : PS) (a c : Int32) => @c241_t d σ a nS c
  have H241_f := fun (d : Nat) (σ : PS) (a c : Int32) => @c241_f d σ a nS c
  have HXnS := fun (d : Nat) (σ : PS) (a : Int32) => @c166_X d σ a nS
  have HYnS := fun (d : Nat) (σ : PS) (a : Int32) => @c166_Y d σ a nS
  have HNnS := fun (d : Nat) (σ : PS) (a : Int32) => @c166_N d σ a nS
  have HOnS := fun (d : Nat) (σ : PS) (a : Int32) => @c166_M d σ a nS
  by_cases h1 : IX nM a1
  case neg =>
    refine opE_of hI0 4 1 (.int (nI 0)) ⟨_, rfl⟩ (by decide) rfl (by decide) (fun d => ?_) (fun d => ?_)
    · simp (disch := first | omega | assumption | rfl) only [s23_0, s23_5, s23_10, s23_14, s23_24, s233_0, s233_10, s233_25, s233_29, s233_37, s233_41, s162_0, c42_t, c42_f, c43_t, c43_f, c44_t, c44_f, c45_t, c45_f, c166_T, c166_F, c165_t, c165_f, c169_t, c169_f, c170_t, c170_f, c209_t, c209_f, c244_t, c244_f, H48_t, H48_f, H206_t, H206_f, HXnM, HYnM, HNnM, HOnM, H51_t, H51_f, H52_t, H52_f, H241_t, H241_f, HXnS, HYnS, HNnS, HOnS, aft_v, aft_n, aft_x1, z00, z10, cond_true, cond_false, eS, eSc, AI_q, AI_n, AL_q, AL_n, FI_q, FI_n, AI_ff, AI_fl, AI_la, AI_tt, FI_aa, FI_la, FI_fl, FI_tt, AL_ff, AL_aa, AL_fw, AL_tt]
    · simp (disch := first | omega | assumption | rfl) only [s23_0, s23_5, s23_10, s23_14, s23_24, s233_0, s233_10, s233_25, s233_29, s233_37, s233_41, s162_0, c42_t, c42_f, c43_t, c43_f, c44_t, c44_f, c45_t, c45_f, c166_T, c166_F, c165_t, c165_f, c169_t, c169_f, c170_t, c170_f, c209_t, c209_f, c244_t, c244_f, H48_t, H48_f, H206_t, H206_f, HXnM, HYnM, HNnM, HOnM, H51_t, H51_f, H52_t, H52_f, H241_t, H241_f, HXnS, HYnS, HNnS, HOnS, aft_v, aft_n, aft_x1, z00, z10, cond_true, cond_false, eS, eSc, AI_q, AI_n, AL_q, AL_n, FI_q, FI_n, AI_ff, AI_fl, AI_la, AI_tt, FI_aa, FI_la, FI_fl, FI_tt, AL_ff, AL_aa, AL_fw, AL_tt]
  by_cases h2 : IN nS a2
  case neg =>
    refine opE_of hI0 3 2 (.int (nI 0)) ⟨_, rfl⟩ (by decide) rfl (by decide) (fun d => ?_) (fun d => ?_)
    · simp (disch := first | omega | assumption | rfl) only [s23_0, s23_5, s23_10, s23_14, s23_24, s233_0, s233_10, s233_25, s233_29, s233_37, s233_41, s162_0, c42_t, c42_f, c43_t, c43_f, c44_t, c44_f, c45_t, c45_f, c166_T, c166_F, c165_t, c165_f, c169_t, c169_f, c170_t, c170_f, c209_t, c209_f, c244_t, c244_f, H48_t, H48_f, H206_t, H206_f, HXnM, HYnM, HNnM, HOnM, H51_t, H51_f, H52_t, H52_f, H241_t, H241_f, HXnS, HYnS, HNnS, HOnS, aft_v, aft_n, aft_x1, z00, z10, cond_true, cond_false, eS, eSc, AI_q, AI_n, AL_q, AL_n, FI_q, FI_n, AI_ff, AI_fl, AI_la, AI_tt, FI_aa, FI_la, FI_fl, FI_tt, AL_ff, AL_aa, AL_fw, AL_tt]
    · simp (disch := first | omega | assumption | rfl) only [s23_0, s23_5, s23_10, s23_14, s23_24, s233_0, s233_10, s233_25, s233_29, s233_37, s233_41, s162_0, c42_t, c42_f, c43_t, c43_f, c44_t, c44_f, c45_t, c45_f, c166_T, c166_F, c165_t, c165_f, c169_t, c169_f, c170_t, c170_f, c209_t, c209_f, c244_t, c244_f, H48_t, H48_f, H206_t, H206_f, HXnM, HYnM, HNnM, HOnM, H51_t, H51_f, H52_t, H52_f, H241_t, H241_f, HXnS, HYnS, HNnS, HOnS, aft_v, aft_n, aft_x1, z00, z10, cond_true, cond_false, eS, eSc, AI_q, AI_n, AL_q, AL_n, FI_q, FI_n, AI_ff, AI_fl, AI_la, AI_tt, FI_aa, FI_la, FI_fl, FI_tt, AL_ff, AL_aa, AL_fw, AL_tt]
  by_cases h3 : IR 0 40 a3
  case neg =>
    refine opE_of hI0 1 3 (.int (nI 0)) ⟨_, rfl⟩ (by decide) rfl (by decide) (fun d => ?_) (fun d => ?_)
    · simp (disch := first | omega | assumption | rfl) only [s23_0, s23_5, s23_10, s23_14, s23_24, s233_0, s233_10, s233_25, s233_29, s233_37, s233_41, s162_0, c42_t, c42_f, c43_t, c43_f, c44_t, c44_f, c45_t, c45_f, c166_T, c166_F, c165_t, c165_f, c169_t, c169_f, c170_t, c170_f, c209_t, c209_f, c244_t, c244_f, H48_t, H48_f, H206_t, H206_f, HXnM, HYnM, HNnM, HOnM, H51_t, H51_f, H52_t, H52_f, H241_t, H241_f, HXnS, HYnS, HNnS, HOnS, aft_v, aft_n, aft_x1, z00, z10, cond_true, cond_false, eS, eSc, AI_q, AI_n, AL_q, AL_n, FI_q, FI_n, AI_ff, AI_fl, AI_la, AI_tt, FI_aa, FI_la, FI_fl, FI_tt, AL_ff, AL_aa, AL_fw, AL_tt]
    · simp (disch := first | omega | assumption | rfl) only [s23_0, s23_5, s23_10, s23_14, s23_24, s233_0, s233_10, s233_25, s233_29, s233_37, s233_41, s162_0, c42_t, c42_f, c43_t, c43_f, c44_t, c44_f, c45_t, c45_f, c166_T, c166_F, c165_t, c165_f, c169_t, c169_f, c170_t, c170_f, c209_t, c209_f, c244_t, c244_f, H48_t, H48_f, H206_t, H206_f, HXnM, HYnM, HNnM, HOnM, H51_t, H51_f, H52_t, H52_f, H241_t, H241_f, HXnS, HYnS, HNnS, HOnS, aft_v, aft_n, aft_x1, z00, z10, cond_true, cond_false, eS, eSc, AI_q, AI_n, AL_q, AL_n, FI_q, FI_n, AI_ff, AI_fl, AI_la, AI_tt, FI_aa, FI_la, FI_fl, FI_tt, AL_ff, AL_aa, AL_fw, AL_tt]
  obtain ⟨m, hm, rfl⟩ := id h1
  obtain ⟨y, -, hy, rfl⟩ := id h3
  by_cases hJ2 : nJ < 60
  case neg =>
    refine opV_of (.int (-1 : Int32)) (σ) (fun z => (wFI (wAL (σ) 145 0 z) 85 0 (nI 0))) ⟨_, rfl⟩ (fun d => ?_) (fun z d => ?_) (fun z => ?_) (fun z => rfl) (fun z => rfl) (fun z => Kp_eq rfl rfl)
    · simp (disch := first | omega | assumption | rfl) only [s23_0, s23_5, s23_10, s23_14, s23_24, s233_0, s233_10, s233_25, s233_29, s233_37, s233_41, s162_0, c42_t, c42_f, c43_t, c43_f, c44_t, c44_f, c45_t, c45_f, c166_T, c166_F, c165_t, c165_f, c169_t, c169_f, c170_t, c170_f, c209_t, c209_f, c244_t, c244_f, H48_t, H48_f, H206_t, H206_f, HXnM, HYnM, HNnM, HOnM, H51_t, H51_f, H52_t, H52_f, H241_t, H241_f, HXnS, HYnS, HNnS, HOnS, aft_v, aft_n, aft_x1, z00, z10, cond_true, cond_false, nI_add, nI_mul, nI_sub, nI_clamp, inbT, oltT, oltF, oleT, oleF, oeqT, oeqF, is01_0, is01_1, AI_q, AI_n, AL_q, AL_n, FI_q, FI_n, AI_ff, AI_fl, AI_la, AI_tt, FI_aa, FI_la, FI_fl, FI_tt, AL_ff, AL_aa, AL_fw, AL_tt, eJc]
    · simp (disch := first | omega | assumption | rfl) only [s23_0, s23_5, s23_10, s23_14, s23_24, s233_0, s233_10, s233_25, s233_29, s233_37, s233_41, s162_0, c42_t, c42_f, c43_t, c43_f, c44_t, c44_f, c45_t, c45_f, c166_T, c166_F, c165_t, c165_f, c169_t, c169_f, c170_t, c170_f, c209_t, c209_f, c244_t, c244_f, H48_t, H48_f, H206_t, H206_f, HXnM, HYnM, HNnM, HOnM, H51_t, H51_f, H52_t, H52_f, H241_t, H241_f, HXnS, HYnS, HNnS, HOnS, aft_v, aft_n, aft_x1, z00, z10, cond_true, cond_false, nI_add, nI_mul, nI_sub, nI_clamp, inbT, oltT, oltF, oleT, oleF, oeqT, oeqF, is01_0, is01_1, AI_q, AI_n, AL_q, AL_n, FI_q, FI_n, AI_ff, AI_fl, AI_la, AI_tt, FI_aa, FI_la, FI_fl, FI_tt, AL_ff, AL_aa, AL_fw, AL_tt, eJ, eS]
    · exact Inv_tn (Inv_o hI0)
  refine opV_of (.int (nI (nJ + 1))) (wFI (wAI (wAI (wAI σ 33 nJ (nI m)) 34 nJ a2) 35 nJ (nI y)) 31 1 (nI (nJ + 1))) (fun z => wFI (wAI (wAI (wAI (wFI (wAL (wFI (wAI (wAI (wAI σ 33 nJ (nI m)) 34 nJ a2) 35 nJ (nI y)) 31 1 (nI (nJ + 1))) 145 0 z) 85 0 (nI 0)) 114 nJ (nI m)) 115 nJ a2) 116 nJ (nI y)) 85 53 (nI (nJ + 1))) ⟨_, rfl⟩ (fun d => ?_) (fun z d => ?_) (fun z => ?_) (fun z => rfl) (fun z => rfl) (fun z => Kp_eq rfl rfl)
  · simp (disch := first | omega | assumption | rfl) only [s23_0, s23_5, s23_10, s23_14, s23_24, s233_0, s233_10, s233_25, s233_29, s233_37, s233_41, s162_0, c42_t, c42_f, c43_t, c43_f, c44_t, c44_f, c45_t, c45_f, c166_T, c166_F, c165_t, c165_f, c169_t, c169_f, c170_t, c170_f, c209_t, c209_f, c244_t, c244_f, H48_t, H48_f, H206_t, H206_f, HXnM, HYnM, HNnM, HOnM, H51_t, H51_f, H52_t, H52_f, H241_t, H241_f, HXnS, HYnS, HNnS, HOnS, aft_v, aft_n, aft_x1, z00, z10, cond_true, cond_false, nI_add, nI_mul, nI_sub, nI_clamp, inbT, oltT, oltF, oleT, oleF, oeqT, oeqF, is01_0, is01_1, AI_q, AI_n, AL_q, AL_n, FI_q, FI_n, AI_ff, AI_fl, AI_la, AI_tt, FI_aa, FI_la, FI_fl, FI_tt, AL_ff, AL_aa, AL_fw, AL_tt, eJc]
  · simp (disch := first | omega | assumption | rfl) only [s23_0, s23_5, s23_10, s23_14, s23_24, s233_0, s233_10, s233_25, s233_29, s233_37, s233_41, s162_0, c42_t, c42_f, c43_t, c43_f, c44_t, c44_f, c45_t, c45_f, c166_T, c166_F, c165_t, c165_f, c169_t, c169_f, c170_t, c170_f, c209_t, c209_f, c244_t, c244_f, H48_t, H48_f, H206_t, H206_f, HXnM, HYnM, HNnM, HOnM, H51_t, H51_f, H52_t, H52_f, H241_t, H241_f, HXnS, HYnS, HNnS, HOnS, aft_v, aft_n, aft_x1, z00, z10, cond_true, cond_false, nI_add, nI_mul, nI_sub, nI_clamp, inbT, oltT, oltF, oleT, oleF, oeqT, oeqF, is01_0, is01_1, AI_q, AI_n, AL_q, AL_n, FI_q, FI_n, AI_ff, AI_fl, AI_la, AI_tt, FI_aa, FI_la, FI_fl, FI_tt, AL_ff, AL_aa, AL_fw, AL_tt, eJ, eS]
  · obtain ⟨g0, g1, g2, g3, g4, g5, g6, g7, g8, g9⟩ := @Inv_o σ z hI0
    refine ⟨g0, g1, g2, g3, ⟨⟨nS, hS, eS, eSc⟩, ⟨nJ + 1, by omega, rfl, rfl, fun j hj => ?_⟩, g4.2.2⟩, g5, g6, g7, g8, g9⟩
    rcases Nat.lt_or_ge j nJ with q | q
    · have := hJo j q
      simp (disch := omega) only [AI_q, AI_n, AL_q, AL_n, FI_q, FI_n, AI_ff, AI_fl, AI_la, AI_tt, FI_aa, FI_la, FI_fl, FI_tt, AL_ff, AL_aa, AL_fw, AL_tt]
      exact this
    · have : j = nJ := by omega
      subst this
      simp (disch := omega) only [AI_q, AI_n, AL_q, AL_n, FI_q, FI_n, AI_ff, AI_fl, AI_la, AI_tt, FI_aa, FI_la, FI_fl, FI_tt, AL_ff, AL_aa, AL_fw, AL_tt]
      refine ⟨rfl, ir_nI (by omega) (by omega), rfl, ?_, rfl, ir_nI (by omega) (by omega)⟩
      rcases h2 with h2 | ⟨c, hc, h2⟩
      · exact Or.inl h2
      · exact Or.inr ⟨c, by omega, h2⟩

set_option maxHeartbeats 2000000 in
theorem op_offer {σ : PS} (hI : Inv σ) (a1 a2 a3 : Int32) : Op (fun d σ => Run false d 32 0 [some (.ref 0), some (.int a1), some (.int a2), some (.int a3)] [] σ) (fun d σ => Run false d 253 0 [some (.ref 85), some (.int a1), some (.int a2), some (.int a3)] [] σ) σ isI (fun E => if E = 1 then 1 else 1) := by
  have hI0 := hI
  obtain ⟨⟨⟨nW, hW, eW, eWc⟩, ⟨nM, hM, eM, eMc⟩, eTr, eIs⟩, ⟨⟨nB, hB, eB, eBc, hBy⟩, eFa, eC10⟩, ⟨⟨nP, hP, eP, ePc, hTr⟩, hPk, hSo, hGr, hCo⟩, ⟨nD, hD, eD, eDc, hDe⟩, ⟨⟨nS, hS, eS, eSc⟩, ⟨nJ, hJ, eJ, eJc, hJo⟩, hPa⟩, ⟨nL, nQ, hL, hQ, eL, eLc, eQ, eQc, hLo, hNo, eFg⟩, ⟨nO, hO, eO, eOc, hOf, hOz⟩, ⟨nA, hA, eA, eAc, hSa⟩, ⟨hBi, hOr⟩, LS, hIL⟩ := hI
  by_cases h1 : IR 0 4 a1
  case neg =>
    refine opE_of hI0 1 1 (.int (nI 0)) ⟨_, rfl⟩ (by decide) rfl (by decide) (fun d => ?_) (fun d => ?_)
    · simp (disch := first | omega | assumption | rfl) only [s32_0, s32_4, s32_12, s32_20, s32_30, s253_0, s253_10, s253_20, s253_30, s253_42, s114_0, c42_t, c42_f, c43_t, c43_f, c44_t, c44_f, c45_t, c45_f, c166_T, c166_F, c165_t, c165_f, c169_t, c169_f, c170_t, c170_f, c209_t, c209_f, c244_t, c244_f, aft_v, aft_n, aft_x1, z00, z10, cond_true, cond_false, AI_q, AI_n, AL_q, AL_n, FI_q, FI_n, AI_ff, AI_fl, AI_la, AI_tt, FI_aa, FI_la, FI_fl, FI_tt, AL_ff, AL_aa, AL_fw, AL_tt]
    · simp (disch := first | omega | assumption | rfl) only [s32_0, s32_4, s32_12, s32_20, s32_30, s253_0, s253_10, s253_20, s253_30, s253_42, s114_0, c42_t, c42_f, c43_t, c43_f, c44_t, c44_f, c45_t, c45_f, c166_T, c166_F, c165_t, c165_f, c169_t, c169_f, c170_t, c170_f, c209_t, c209_f, c244_t, c244_f, aft_v, aft_n, aft_x1, z00, z10, cond_true, cond_false, AI_q, AI_n, AL_q, AL_n, FI_q, FI_n, AI_ff, AI_fl, AI_la, AI_tt, FI_aa, FI_la, FI_fl, FI_tt, AL_ff, AL_aa, AL_fw, AL_tt]
  by_cases h2 : IR 1 100000 a2
  case neg =>
    refine opE_of hI0 1 1 (.int (nI 0)) ⟨_, rfl⟩ (by decide) rfl (by decide) (fun d => ?_) (fun d => ?_)
    · simp (disch := first | omega | assumption | rfl) only [s32_0, s32_4, s32_12, s32_20, s32_30, s253_0, s253_10, s253_20, s253_30, s253_42, s114_0, c42_t, c42_f, c43_t, c43_f, c44_t, c44_f, c45_t, c45_f, c166_T, c166_F, c165_t, c165_f, c169_t, c169_f, c170_t, c170_f, c209_t, c209_f, c244_t, c244_f, aft_v, aft_n, aft_x1, z00, z10, cond_true, cond_false, AI_q, AI_n, AL_q, AL_n, FI_q, FI_n, AI_ff, AI_fl, AI_la, AI_tt, FI_aa, FI_la, FI_fl, FI_tt, AL_ff, AL_aa, AL_fw, AL_tt]
    · simp (disch := first | omega | assumption | rfl) only [s32_0, s32_4, s32_12, s32_20, s32_30, s253_0, s253_10, s253_20, s253_30, s253_42, s114_0, c42_t, c42_f, c43_t, c43_f, c44_t, c44_f, c45_t, c45_f, c166_T, c166_F, c165_t, c165_f, c169_t, c169_f, c170_t, c170_f, c209_t, c209_f, c244_t, c244_f, aft_v, aft_n, aft_x1, z00, z10, cond_true, cond_false, AI_q, AI_n, AL_q, AL_n, FI_q, FI_n, AI_ff, AI_fl, AI_la, AI_tt, FI_aa, FI_la, FI_fl, FI_tt, AL_ff, AL_aa, AL_fw, AL_tt]
  by_cases h3 : IR 0 100000 a3
  case neg =>
    refine opE_of hI0 1 1 (.int (nI 0)) ⟨_, rfl⟩ (by decide) rfl (by decide) (fun d => ?_) (fun d => ?_)
    · simp (disch := first | omega | assumption | rfl) only [s32_0, s32_4, s32_12, s32_20, s32_30, s253_0, s253_10, s253_20, s253_30, s253_42, s114_0, c42_t, c42_f, c43_t, c43_f, c44_t, c44_f, c45_t, c45_f, c166_T, c166_F, c165_t, c165_f, c169_t, c169_f, c170_t, c170_f, c209_t, c209_f, c244_t, c244_f, aft_v, aft_n, aft_x1, z00, z10, cond_true, cond_false, AI_q, AI_n, AL_q, AL_n, FI_q, FI_n, AI_ff, AI_fl, AI_la, AI_tt, FI_aa, FI_la, FI_fl, FI_tt, AL_ff, AL_aa, AL_fw, AL_tt]
    · simp (disch := first | omega | assumption | rfl) only [s32_0, s32_4, s32_12, s32_20, s32_30, s253_0, s253_10, s253_20, s253_30, s253_42, s114_0, c42_t, c42_f, c43_t, c43_f, c44_t, c44_f, c45_t, c45_f, c166_T, c166_F, c165_t, c165_f, c169_t, c169_f, c170_t, c170_f, c209_t, c209_f, c244_t, c244_f, aft_v, aft_n, aft_x1, z00, z10, cond_true, cond_false, AI_q, AI_n, AL_q, AL_n, FI_q, FI_n, AI_ff, AI_fl, AI_la, AI_tt, FI_aa, FI_la, FI_fl, FI_tt, AL_ff, AL_aa, AL_fw, AL_tt]
  obtain ⟨s, -, hs, rfl⟩ := id h1
  by_cases hO2 : nO < 12
  case neg =>
    refine opV_of (.int (-1 : Int32)) (σ) (fun z => (wFI (wAL (σ) 145 0 z) 85 0 (nI 0))) ⟨_, rfl⟩ (fun d => ?_) (fun z d => ?_) (fun z => ?_) (fun z => rfl) (fun z => rfl) (fun z => Kp_eq rfl rfl)
    · simp (disch := first | omega | assumption | rfl) only [s32_0, s32_4, s32_12, s32_20, s32_30, s253_0, s253_10, s253_20, s253_30, s253_42, s114_0, c42_t, c42_f, c43_t, c43_f, c44_t, c44_f, c45_t, c45_f, c166_T, c166_F, c165_t, c165_f, c169_t, c169_f, c170_t, c170_f, c209_t, c209_f, c244_t, c244_f, aft_v, aft_n, aft_x1, z00, z10, cond_true, cond_false, nI_add, nI_mul, nI_sub, nI_clamp, inbT, oltT, oltF, oleT, oleF, oeqT, oeqF, is01_0, is01_1, AI_q, AI_n, AL_q, AL_n, FI_q, FI_n, AI_ff, AI_fl, AI_la, AI_tt, FI_aa, FI_la, FI_fl, FI_tt, AL_ff, AL_aa, AL_fw, AL_tt, eOc]
    · simp (disch := first | omega | assumption | rfl) only [s32_0, s32_4, s32_12, s32_20, s32_30, s253_0, s253_10, s253_20, s253_30, s253_42, s114_0, c42_t, c42_f, c43_t, c43_f, c44_t, c44_f, c45_t, c45_f, c166_T, c166_F, c165_t, c165_f, c169_t, c169_f, c170_t, c170_f, c209_t, c209_f, c244_t, c244_f, aft_v, aft_n, aft_x1, z00, z10, cond_true, cond_false, nI_add, nI_mul, nI_sub, nI_clamp, inbT, oltT, oltF, oleT, oleF, oeqT, oeqF, is01_0, is01_1, AI_q, AI_n, AL_q, AL_n, FI_q, FI_n, AI_ff, AI_fl, AI_la, AI_tt, FI_aa, FI_la, FI_fl, FI_tt, AL_ff, AL_aa, AL_fw, AL_tt, eO]
    · exact Inv_tn (Inv_o hI0)
  refine opV_of (.int (nI nO)) (wFI (wAI (wAI (wAI (wAI σ 72 nO (nI s)) 73 nO a2) 74 nO a3) 75 nO (-1 : Int32)) 71 0 (nI (nO + 1))) (fun z => wFI (wAI (wAI (wAI (wFI (wAL (wFI (wAI (wAI (wAI (wAI σ 72 nO (nI s)) 73 nO a2) 74 nO a3) 75 nO (-1 : Int32)) 71 0 (nI (nO + 1))) 145 0 z) 85 0 (nI 0)) 133 nO (nI s)) 134 nO a2) 135 nO a3) 85 75 (nI (nO + 1))) ⟨_, rfl⟩ (fun d => ?_) (fun z d => ?_) (fun z => ?_) (fun z => rfl) (fun z => rfl) (fun z => Kp_eq rfl rfl)
  · simp (disch := first | omega | assumption | rfl) only [s32_0, s32_4, s32_12, s32_20, s32_30, s253_0, s253_10, s253_20, s253_30, s253_42, s114_0, c42_t, c42_f, c43_t, c43_f, c44_t, c44_f, c45_t, c45_f, c166_T, c166_F, c165_t, c165_f, c169_t, c169_f, c170_t, c170_f, c209_t, c209_f, c244_t, c244_f, aft_v, aft_n, aft_x1, z00, z10, cond_true, cond_false, nI_add, nI_mul, nI_sub, nI_clamp, inbT, oltT, oltF, oleT, oleF, oeqT, oeqF, is01_0, is01_1, AI_q, AI_n, AL_q, AL_n, FI_q, FI_n, AI_ff, AI_fl, AI_la, AI_tt, FI_aa, FI_la, FI_fl, FI_tt, AL_ff, AL_aa, AL_fw, AL_tt, eOc, Nat.add_sub_cancel]
  · simp (disch := first | omega | assumption | rfl) only [s32_0, s32_4, s32_12, s32_20, s32_30, s253_0, s253_10, s253_20, s253_30, s253_42, s114_0, c42_t, c42_f, c43_t, c43_f, c44_t, c44_f, c45_t, c45_f, c166_T, c166_F, c165_t, c165_f, c169_t, c169_f, c170_t, c170_f, c209_t, c209_f, c244_t, c244_f, aft_v, aft_n, aft_x1, z00, z10, cond_true, cond_false, nI_add, nI_mul, nI_sub, nI_clamp, inbT, oltT, oltF, oleT, oleF, oeqT, oeqF, is01_0, is01_1, AI_q, AI_n, AL_q, AL_n, FI_q, FI_n, AI_ff, AI_fl, AI_la, AI_tt, FI_aa, FI_la, FI_fl, FI_tt, AL_ff, AL_aa, AL_fw, AL_tt, eO, Nat.add_sub_cancel]
  · obtain ⟨g0, g1, g2, g3, g4, g5, g6, g7, g8, g9⟩ := @Inv_o σ z hI0
    refine ⟨g0, g1, g2, g3, g4, g5, ⟨nO + 1, by omega, rfl, rfl, fun j hj => ?_, fun j q1 q2 => hOz j (by omega) q2⟩, g7, g8, g9⟩
    rcases Nat.lt_or_ge j nO with q | q
    · have := hOf j q
      simp (disch := omega) only [AI_q, AI_n, AL_q, AL_n, FI_q, FI_n, AI_ff, AI_fl, AI_la, AI_tt, FI_aa, FI_la, FI_fl, FI_tt, AL_ff, AL_aa, AL_fw, AL_tt]
      exact this
    · have : j = nO := by omega
      subst this
      have z1 := hOz j (Nat.le_refl _) hO2
      simp (disch := omega) only [AI_q, AI_n, AL_q, AL_n, FI_q, FI_n, AI_ff, AI_fl, AI_la, AI_tt, FI_aa, FI_la, FI_fl, FI_tt, AL_ff, AL_aa, AL_fw, AL_tt]
      exact ⟨rfl, ix_nI (by omega), rfl, h2, rfl, h3, Or.inl ⟨z1, rfl⟩⟩

set_option maxHeartbeats 2000000 in
theorem op_sample {σ : PS} (hI : Inv σ) (a1 a2 a3 a4 a5 : Int32) : Op (fun d σ => Run false d 36 0 [some (.ref 0), some (.int a1), some (.int a2), some (.int a3), some (.int a4), some (.int a5)] [] σ) (fun d σ => Run false d 259 0 [some (.ref 85), some (.int a1), some (.int a2), some (.int a3), some (.int a4), some (.int a5)] [] σ) σ isI (fun E => if E = 4 then 1 else if E = 1 then 2 else 1) := by
  have hI0 := hI
  obtain ⟨⟨⟨nW, hW, eW, eWc⟩, ⟨nM, hM, eM, eMc⟩, eTr, eIs⟩, ⟨⟨nB, hB, eB, eBc, hBy⟩, eFa, eC10⟩, ⟨⟨nP, hP, eP, ePc, hTr⟩, hPk, hSo, hGr, hCo⟩, ⟨nD, hD, eD, eDc, hDe⟩, ⟨⟨nS, hS, eS, eSc⟩, ⟨nJ, hJ, eJ, eJc, hJo⟩, hPa⟩, ⟨nL, nQ, hL, hQ, eL, eLc, eQ, eQc, hLo, hNo, eFg⟩, ⟨nO, hO, eO, eOc, hOf, hOz⟩, ⟨nA, hA, eA, eAc, hSa⟩, ⟨hBi, hOr⟩, LS, hIL⟩ := hI
  have H48_t := fun (d : Nat) (σ : PS) (a : Int32) => @c48_t d σ a nM
  have H48_f := fun (d : Nat) (σ : PS) (a : Int32) => @c48_f d σ a nM
  have H206_t := fun (d : Nat) (σ : PS) (a : Int32) => @c206_t d σ a nM
  have H206_f := fun (d : Nat) (σ : PS) (a : Int32) => @c206_f d σ a nM
  have HXnM := fun (d : Nat) (σ : PS) (a : Int32) => @c166_X d σ a nM
  have HYnM := fun (d : Nat) (σ : PS) (a : Int32) => @c166_Y d σ a nM
  have HNnM := fun (d : Nat) (σ : PS) (a : Int32) => @c166_N d σ a nM
  have HOnM := fun (d : Nat) (σ : PS) (a : Int32) => @c166_M d σ a nM
  by_cases h1 : IX nM a1
  case neg =>
    refine opE_of hI0 4 1 (.int (nI 0)) ⟨_, rfl⟩ (by decide) rfl (by decide) (fun d => ?_) (fun d => ?_)
    · simp (disch := first | omega | assumption | rfl) only [s36_0, s36_5, s36_9, s36_18, s36_27, s36_35, s36_52, s259_0, s259_10, s259_18, s259_30, s259_42, s259_53, s259_65, s155_0, c42_t, c42_f, c43_t, c43_f, c44_t, c44_f, c45_t, c45_f, c166_T, c166_F, c165_t, c165_f, c169_t, c169_f, c170_t, c170_f, c209_t, c209_f, c244_t, c244_f, H48_t, H48_f, H206_t, H206_f, HXnM, HYnM, HNnM, HOnM, aft_v, aft_n, aft_x1, z00, z10, cond_true, cond_false, eWc, eW, eMc, AI_q, AI_n, AL_q, AL_n, FI_q, FI_n, AI_ff, AI_fl, AI_la, AI_tt, FI_aa, FI_la, FI_fl, FI_tt, AL_ff, AL_aa, AL_fw, AL_tt]
    · simp (disch := first | omega | assumption | rfl) only [s36_0, s36_5, s36_9, s36_18, s36_27, s36_35, s36_52, s259_0, s259_10, s259_18, s259_30, s259_42, s259_53, s259_65, s155_0, c42_t, c42_f, c43_t, c43_f, c44_t, c44_f, c45_t, c45_f, c166_T, c166_F, c165_t, c165_f, c169_t, c169_f, c170_t, c170_f, c209_t, c209_f, c244_t, c244_f, H48_t, H48_f, H206_t, H206_f, HXnM, HYnM, HNnM, HOnM, aft_v, aft_n, aft_x1, z00, z10, cond_true, cond_false, eWc, eW, eMc, AI_q, AI_n, AL_q, AL_n, FI_q, FI_n, AI_ff, AI_fl, AI_la, AI_tt, FI_aa, FI_la, FI_fl, FI_tt, AL_ff, AL_aa, AL_fw, AL_tt]
  by_cases h2 : IR 0 4 a2
  case neg =>
    refine opE_of hI0 1 2 (.int (nI 0)) ⟨_, rfl⟩ (by decide) rfl (by decide) (fun d => ?_) (fun d => ?_)
    · simp (disch := first | omega | assumption | rfl) only [s36_0, s36_5, s36_9, s36_18, s36_27, s36_35, s36_52, s259_0, s259_10, s259_18, s259_30, s259_42, s259_53, s259_65, s155_0, c42_t, c42_f, c43_t, c43_f, c44_t, c44_f, c45_t, c45_f, c166_T, c166_F, c165_t, c165_f, c169_t, c169_f, c170_t, c170_f, c209_t, c209_f, c244_t, c244_f, H48_t, H48_f, H206_t, H206_f, HXnM, HYnM, HNnM, HOnM, aft_v, aft_n, aft_x1, z00, z10, cond_true, cond_false, eWc, eW, eMc, AI_q, AI_n, AL_q, AL_n, FI_q, FI_n, AI_ff, AI_fl, AI_la, AI_tt, FI_aa, FI_la, FI_fl, FI_tt, AL_ff, AL_aa, AL_fw, AL_tt]
    · simp (disch := first | omega | assumption | rfl) only [s36_0, s36_5, s36_9, s36_18, s36_27, s36_35, s36_52, s259_0, s259_10, s259_18, s259_30, s259_42, s259_53, s259_65, s155_0, c42_t, c42_f, c43_t, c43_f, c44_t, c44_f, c45_t, c45_f, c166_T, c166_F, c165_t, c165_f, c169_t, c169_f, c170_t, c170_f, c209_t, c209_f, c244_t, c244_f, H48_t, H48_f, H206_t, H206_f, HXnM, HYnM, HNnM, HOnM, aft_v, aft_n, aft_x1, z00, z10, cond_true, cond_false, eWc, eW, eMc, AI_q, AI_n, AL_q, AL_n, FI_q, FI_n, AI_ff, AI_fl, AI_la, AI_tt, FI_aa, FI_la, FI_fl, FI_tt, AL_ff, AL_aa, AL_fw, AL_tt]
  by_cases h3 : IR 0 nW a3
  case neg =>
    refine opE_of hI0 1 2 (.int (nI 0)) ⟨_, rfl⟩ (by decide) rfl (by decide) (fun d => ?_) (fun d => ?_)
    · simp (disch := first | omega | assumption | rfl) only [s36_0, s36_5, s36_9, s36_18, s36_27, s36_35, s36_52, s259_0, s259_10, s259_18, s259_30, s259_42, s259_53, s259_65, s155_0, c42_t, c42_f, c43_t, c43_f, c44_t, c44_f, c45_t, c45_f, c166_T, c166_F, c165_t, c165_f, c169_t, c169_f, c170_t, c170_f, c209_t, c209_f, c244_t, c244_f, H48_t, H48_f, H206_t, H206_f, HXnM, HYnM, HNnM, HOnM, aft_v, aft_n, aft_x1, z00, z10, cond_true, cond_false, eWc, eW, eMc, AI_q, AI_n, AL_q, AL_n, FI_q, FI_n, AI_ff, AI_fl, AI_la, AI_tt, FI_aa, FI_la, FI_fl, FI_tt, AL_ff, AL_aa, AL_fw, AL_tt]
    · simp (disch := first | omega | assumption | rfl) only [s36_0, s36_5, s36_9, s36_18, s36_27, s36_35, s36_52, s259_0, s259_10, s259_18, s259_30, s259_42, s259_53, s259_65, s155_0, c42_t, c42_f, c43_t, c43_f, c44_t, c44_f, c45_t, c45_f, c166_T, c166_F, c165_t, c165_f, c169_t, c169_f, c170_t, c170_f, c209_t, c209_f, c244_t, c244_f, H48_t, H48_f, H206_t, H206_f, HXnM, HYnM, HNnM, HOnM, aft_v, aft_n, aft_x1, z00, z10, cond_true, cond_false, eWc, eW, eMc, AI_q, AI_n, AL_q, AL_n, FI_q, FI_n, AI_ff, AI_fl, AI_la, AI_tt, FI_aa, FI_la, FI_fl, FI_tt, AL_ff, AL_aa, AL_fw, AL_tt]
  by_cases h4 : IR 1 1000 a4
  case neg =>
    refine opE_of hI0 1 2 (.int (nI 0)) ⟨_, rfl⟩ (by decide) rfl (by decide) (fun d => ?_) (fun d => ?_)
    · simp (disch := first | omega | assumption | rfl) only [s36_0, s36_5, s36_9, s36_18, s36_27, s36_35, s36_52, s259_0, s259_10, s259_18, s259_30, s259_42, s259_53, s259_65, s155_0, c42_t, c42_f, c43_t, c43_f, c44_t, c44_f, c45_t, c45_f, c166_T, c166_F, c165_t, c165_f, c169_t, c169_f, c170_t, c170_f, c209_t, c209_f, c244_t, c244_f, H48_t, H48_f, H206_t, H206_f, HXnM, HYnM, HNnM, HOnM, aft_v, aft_n, aft_x1, z00, z10, cond_true, cond_false, eWc, eW, eMc, AI_q, AI_n, AL_q, AL_n, FI_q, FI_n, AI_ff, AI_fl, AI_la, AI_tt, FI_aa, FI_la, FI_fl, FI_tt, AL_ff, AL_aa, AL_fw, AL_tt]
    · simp (disch := first | omega | assumption | rfl) only [s36_0, s36_5, s36_9, s36_18, s36_27, s36_35, s36_52, s259_0, s259_10, s259_18, s259_30, s259_42, s259_53, s259_65, s155_0, c42_t, c42_f, c43_t, c43_f, c44_t, c44_f, c45_t, c45_f, c166_T, c166_F, c165_t, c165_f, c169_t, c169_f, c170_t, c170_f, c209_t, c209_f, c244_t, c244_f, H48_t, H48_f, H206_t, H206_f, HXnM, HYnM, HNnM, HOnM, aft_v, aft_n, aft_x1, z00, z10, cond_true, cond_false, eWc, eW, eMc, AI_q, AI_n, AL_q, AL_n, FI_q, FI_n, AI_ff, AI_fl, AI_la, AI_tt, FI_aa, FI_la, FI_fl, FI_tt, AL_ff, AL_aa, AL_fw, AL_tt]
  obtain ⟨h, hh1, hh2, rfl⟩ := id h4
  by_cases h5 : IR 0 h a5
  case neg =>
    refine opE_of hI0 1 2 (.int (nI 0)) ⟨_, rfl⟩ (by decide) rfl (by decide) (fun d => ?_) (fun d => ?_)
    · simp (disch := first | omega | assumption | rfl) only [s36_0, s36_5, s36_9, s36_18, s36_27, s36_35, s36_52, s259_0, s259_10, s259_18, s259_30, s259_42, s259_53, s259_65, s155_0, c42_t, c42_f, c43_t, c43_f, c44_t, c44_f, c45_t, c45_f, c166_T, c166_F, c165_t, c165_f, c169_t, c169_f, c170_t, c170_f, c209_t, c209_f, c244_t, c244_f, H48_t, H48_f, H206_t, H206_f, HXnM, HYnM, HNnM, HOnM, aft_v, aft_n, aft_x1, z00, z10, cond_true, cond_false, eWc, eW, eMc, AI_q, AI_n, AL_q, AL_n, FI_q, FI_n, AI_ff, AI_fl, AI_la, AI_tt, FI_aa, FI_la, FI_fl, FI_tt, AL_ff, AL_aa, AL_fw, AL_tt]
    · simp (disch := first | omega | assumption | rfl) only [s36_0, s36_5, s36_9, s36_18, s36_27, s36_35, s36_52, s259_0, s259_10, s259_18, s259_30, s259_42, s259_53, s259_65, s155_0, c42_t, c42_f, c43_t, c43_f, c44_t, c44_f, c45_t, c45_f, c166_T, c166_F, c165_t, c165_f, c169_t, c169_f, c170_t, c170_f, c209_t, c209_f, c244_t, c244_f, H48_t, H48_f, H206_t, H206_f, HXnM, HYnM, HNnM, HOnM, aft_v, aft_n, aft_x1, z00, z10, cond_true, cond_false, eWc, eW, eMc, AI_q, AI_n, AL_q, AL_n, FI_q, FI_n, AI_ff, AI_fl, AI_la, AI_tt, FI_aa, FI_la, FI_fl, FI_tt, AL_ff, AL_aa, AL_fw, AL_tt]
  obtain ⟨m, hm, rfl⟩ := id h1
  obtain ⟨s, -, hs, rfl⟩ := id h2
  obtain ⟨y, -, hy, rfl⟩ := id h3
  obtain ⟨w, -, hw, rfl⟩ := id h5
  by_cases hA2 : nA < 60
  case neg =>
    refine opV_of (.int (-1 : Int32)) (σ) (fun z => (wFI (wAL (σ) 145 0 z) 85 0 (nI 0))) ⟨_, rfl⟩ (fun d => ?_) (fun z d => ?_) (fun z => ?_) (fun z => rfl) (fun z => rfl) (fun z => Kp_eq rfl rfl)
    · simp (disch := first | omega | assumption | rfl) only [s36_0, s36_5, s36_9, s36_18, s36_27, s36_35, s36_52, s259_0, s259_10, s259_18, s259_30, s259_42, s259_53, s259_65, s155_0, c42_t, c42_f, c43_t, c43_f, c44_t, c44_f, c45_t, c45_f, c166_T, c166_F, c165_t, c165_f, c169_t, c169_f, c170_t, c170_f, c209_t, c209_f, c244_t, c244_f, H48_t, H48_f, H206_t, H206_f, HXnM, HYnM, HNnM, HOnM, aft_v, aft_n, aft_x1, z00, z10, cond_true, cond_false, nI_add, nI_mul, nI_sub, nI_clamp, inbT, oltT, oltF, oleT, oleF, oeqT, oeqF, is01_0, is01_1, AI_q, AI_n, AL_q, AL_n, FI_q, FI_n, AI_ff, AI_fl, AI_la, AI_tt, FI_aa, FI_la, FI_fl, FI_tt, AL_ff, AL_aa, AL_fw, AL_tt, eAc, eWc]
    · simp (disch := first | omega | assumption | rfl) only [s36_0, s36_5, s36_9, s36_18, s36_27, s36_35, s36_52, s259_0, s259_10, s259_18, s259_30, s259_42, s259_53, s259_65, s155_0, c42_t, c42_f, c43_t, c43_f, c44_t, c44_f, c45_t, c45_f, c166_T, c166_F, c165_t, c165_f, c169_t, c169_f, c170_t, c170_f, c209_t, c209_f, c244_t, c244_f, H48_t, H48_f, H206_t, H206_f, HXnM, HYnM, HNnM, HOnM, aft_v, aft_n, aft_x1, z00, z10, cond_true, cond_false, nI_add, nI_mul, nI_sub, nI_clamp, inbT, oltT, oltF, oleT, oleF, oeqT, oeqF, is01_0, is01_1, AI_q, AI_n, AL_q, AL_n, FI_q, FI_n, AI_ff, AI_fl, AI_la, AI_tt, FI_aa, FI_la, FI_fl, FI_tt, AL_ff, AL_aa, AL_fw, AL_tt, eA, eW]
    · exact Inv_tn (Inv_o hI0)
  refine opV_of (.int (nI (nA + 1))) (wFI (wAI (wAI (wAI (wAI σ 79 nA (nI (m * 5 + s))) 80 nA (nI y)) 81 nA (nI h)) 82 nA (nI w)) 78 0 (nI (nA + 1))) (fun z => wFI (wAI (wAI (wAI (wAI (wAI (wFI (wAL (wFI (wAI (wAI (wAI (wAI σ 79 nA (nI (m * 5 + s))) 80 nA (nI y)) 81 nA (nI h)) 82 nA (nI w)) 78 0 (nI (nA + 1))) 145 0 z) 85 0 (nI 0)) 140 nA (nI m)) 141 nA (nI s)) 142 nA (nI y)) 143 nA (nI h)) 144 nA (nI w)) 85 85 (nI (nA + 1))) ⟨_, rfl⟩ (fun d => ?_) (fun z d => ?_) (fun z => ?_) (fun z => rfl) (fun z => rfl) (fun z => Kp_eq rfl rfl)
  · simp (disch := first | omega | assumption | rfl) only [s36_0, s36_5, s36_9, s36_18, s36_27, s36_35, s36_52, s259_0, s259_10, s259_18, s259_30, s259_42, s259_53, s259_65, s155_0, c42_t, c42_f, c43_t, c43_f, c44_t, c44_f, c45_t, c45_f, c166_T, c166_F, c165_t, c165_f, c169_t, c169_f, c170_t, c170_f, c209_t, c209_f, c244_t, c244_f, H48_t, H48_f, H206_t, H206_f, HXnM, HYnM, HNnM, HOnM, aft_v, aft_n, aft_x1, z00, z10, cond_true, cond_false, nI_add, nI_mul, nI_sub, nI_clamp, inbT, oltT, oltF, oleT, oleF, oeqT, oeqF, is01_0, is01_1, AI_q, AI_n, AL_q, AL_n, FI_q, FI_n, AI_ff, AI_fl, AI_la, AI_tt, FI_aa, FI_la, FI_fl, FI_tt, AL_ff, AL_aa, AL_fw, AL_tt, eAc, eWc]
  · simp (disch := first | omega | assumption | rfl) only [s36_0, s36_5, s36_9, s36_18, s36_27, s36_35, s36_52, s259_0, s259_10, s259_18, s259_30, s259_42, s259_53, s259_65, s155_0, c42_t, c42_f, c43_t, c43_f, c44_t, c44_f, c45_t, c45_f, c166_T, c166_F, c165_t, c165_f, c169_t, c169_f, c170_t, c170_f, c209_t, c209_f, c244_t, c244_f, H48_t, H48_f, H206_t, H206_f, HXnM, HYnM, HNnM, HOnM, aft_v, aft_n, aft_x1, z00, z10, cond_true, cond_false, nI_add, nI_mul, nI_sub, nI_clamp, inbT, oltT, oltF, oleT, oleF, oeqT, oeqF, is01_0, is01_1, AI_q, AI_n, AL_q, AL_n, FI_q, FI_n, AI_ff, AI_fl, AI_la, AI_tt, FI_aa, FI_la, FI_fl, FI_tt, AL_ff, AL_aa, AL_fw, AL_tt, eA, eW]
  · obtain ⟨g0, g1, g2, g3, g4, g5, g6, g7, g8, g9⟩ := @Inv_o σ z hI0
    refine ⟨g0, g1, g2, g3, g4, g5, g6, ⟨nA + 1, by omega, rfl, rfl, fun j hj => ?_⟩, g8, g9⟩
    rcases Nat.lt_or_ge j nA with q | q
    · have := hSa j q
      simp (disch := omega) only [AI_q, AI_n, AL_q, AL_n, FI_q, FI_n, AI_ff, AI_fl, AI_la, AI_tt, FI_aa, FI_la, FI_fl, FI_tt, AL_ff, AL_aa, AL_fw, AL_tt]
      exact this
    · have : j = nA := by omega
      subst this
      refine ⟨m, s, y, h, w, by omega, by omega, by omega, by omega, by omega, by omega, ?_⟩
      simp (disch := omega) only [AI_q, AI_n, AL_q, AL_n, FI_q, FI_n, AI_ff, AI_fl, AI_la, AI_tt, FI_aa, FI_la, FI_fl, FI_tt, AL_ff, AL_aa, AL_fw, AL_tt, and_self]

set_option maxHeartbeats 2000000 in
theorem op_made {σ : PS} (hI : Inv σ) (a1 a2 : Int32) : Op (fun d σ => Run false d 10 0 [some (.ref 0), some (.int a1), some (.int a2), none] [] σ) (fun d σ => Run false d 211 0 [some (.ref 85), some (.int a1), some (.int a2), none] [] σ) σ isI (fun E => if E = 4 then 1 else if E = 1 then 2 else 1) := by
  have hI0 := hI
  obtain ⟨⟨⟨nW, hW, eW, eWc⟩, ⟨nM, hM, eM, eMc⟩, eTr, eIs⟩, ⟨⟨nB, hB, eB, eBc, hBy⟩, eFa, eC10⟩, ⟨⟨nP, hP, eP, ePc, hTr⟩, hPk, hSo, hGr, hCo⟩, ⟨nD, hD, eD, eDc, hDe⟩, ⟨⟨nS, hS, eS, eSc⟩, ⟨nJ, hJ, eJ, eJc, hJo⟩, hPa⟩, ⟨nL, nQ, hL, hQ, eL, eLc, eQ, eQc, hLo, hNo, eFg⟩, ⟨nO, hO, eO, eOc, hOf, hOz⟩, ⟨nA, hA, eA, eAc, hSa⟩, ⟨hBi, hOr⟩, LS, hIL⟩ := hI
  have H49_t := fun (d : Nat) (σ : PS) (a : Int32) => @c49_t d σ a nP
  have H49_f := fun (d : Nat) (σ : PS) (a : Int32) => @c49_f d σ a nP
  have H208_t := fun (d : Nat) (σ : PS) (a : Int32) => @c208_t d σ a nP
  have H208_f := fun (d : Nat) (σ : PS) (a : Int32) => @c208_f d σ a nP
  have HXnP := fun (d : Nat) (σ : PS) (a : Int32) => @c166_X d σ a nP
  have HYnP := fun (d : Nat) (σ : PS) (a : Int32) => @c166_Y d σ a nP
  have HNnP := fun (d : Nat) (σ : PS) (a : Int32) => @c166_N d σ a nP
  have HOnP := fun (d : Nat) (σ : PS) (a : Int32) => @c166_M d σ a nP
  by_cases h1 : IX nP a1
  case neg =>
    refine opE_of hI0 4 1 (.int (nI 0)) ⟨_, rfl⟩ (by decide) rfl (by decide) (fun d => ?_) (fun d => ?_)
    · simp (disch := first | omega | assumption | rfl) only [s10_0, s10_5, s10_11, s211_0, s211_10, s211_27, s211_31, c42_t, c42_f, c43_t, c43_f, c44_t, c44_f, c45_t, c45_f, c166_T, c166_F, c165_t, c165_f, c169_t, c169_f, c170_t, c170_f, c209_t, c209_f, c244_t, c244_f, H49_t, H49_f, H208_t, H208_f, HXnP, HYnP, HNnP, HOnP, aft_v, aft_n, aft_x1, z00, z10, cond_true, cond_false, ePc, eP, e19, e98, C50t, C50f, HKt, HKf, nI_add, nI_mul, nI_sub, nI_clamp, inbT, oltT, oltF, oleT, oleF, oeqT, oeqF, is01_0, is01_1, AI_q, AI_n, AL_q, AL_n, FI_q, FI_n, AI_ff, AI_fl, AI_la, AI_tt, FI_aa, FI_la, FI_fl, FI_tt, AL_ff, AL_aa, AL_fw, AL_tt]
    · simp (disch := first | omega | assumption | rfl) only [s10_0, s10_5, s10_11, s211_0, s211_10, s211_27, s211_31, c42_t, c42_f, c43_t, c43_f, c44_t, c44_f, c45_t, c45_f, c166_T, c166_F, c165_t, c165_f, c169_t, c169_f, c170_t, c170_f, c209_t, c209_f, c244_t, c244_f, H49_t, H49_f, H208_t, H208_f, HXnP, HYnP, HNnP, HOnP, aft_v, aft_n, aft_x1, z00, z10, cond_true, cond_false, ePc, eP, e19, e98, C50t, C50f, HKt, HKf, nI_add, nI_mul, nI_sub, nI_clamp, inbT, oltT, oltF, oleT, oleF, oeqT, oeqF, is01_0, is01_1, AI_q, AI_n, AL_q, AL_n, FI_q, FI_n, AI_ff, AI_fl, AI_la, AI_tt, FI_aa, FI_la, FI_fl, FI_tt, AL_ff, AL_aa, AL_fw, AL_tt]
  obtain ⟨p, hp, rfl⟩ := id h1
  obtain ⟨-, -, e19, e20, hmk⟩ := hPk p (by omega)
  obtain ⟨nk, hnk, e98⟩ : ∃ n, n ≤ 5 ∧ AI σ 98 p = nI n := by
    rcases hmk with ⟨q, -⟩ | ⟨k, n, -, q1, -, q2⟩
    · exact ⟨0, by omega, q⟩
    · exact ⟨n, q1, q2⟩
  have C50t := fun (d : Nat) (σ : PS) (a : Int32) => @c50_t d p nk σ a
  have C50f := fun (d : Nat) (σ : PS) (a : Int32) => @c50_f d p nk σ a
  have HKt := fun (d : Nat) (σ : PS) (a : Int32) => @c166_X d σ a nk
  have HKf := fun (d : Nat) (σ : PS) (a : Int32) => @c166_Y d σ a nk
  rw [e98] at e19
  by_cases h2 : IX nk a2
  case neg =>
    refine opE_of hI0 1 2 (.int (nI 0)) ⟨_, rfl⟩ (by decide) rfl (by decide) (fun d => ?_) (fun d => ?_)
    · simp (disch := first | omega | assumption | rfl) only [s10_0, s10_5, s10_11, s211_0, s211_10, s211_27, s211_31, c42_t, c42_f, c43_t, c43_f, c44_t, c44_f, c45_t, c45_f, c166_T, c166_F, c165_t, c165_f, c169_t, c169_f, c170_t, c170_f, c209_t, c209_f, c244_t, c244_f, H49_t, H49_f, H208_t, H208_f, HXnP, HYnP, HNnP, HOnP, aft_v, aft_n, aft_x1, z00, z10, cond_true, cond_false, ePc, eP, e19, e98, C50t, C50f, HKt, HKf, nI_add, nI_mul, nI_sub, nI_clamp, inbT, oltT, oltF, oleT, oleF, oeqT, oeqF, is01_0, is01_1, AI_q, AI_n, AL_q, AL_n, FI_q, FI_n, AI_ff, AI_fl, AI_la, AI_tt, FI_aa, FI_la, FI_fl, FI_tt, AL_ff, AL_aa, AL_fw, AL_tt]
    · simp (disch := first | omega | assumption | rfl) only [s10_0, s10_5, s10_11, s211_0, s211_10, s211_27, s211_31, c42_t, c42_f, c43_t, c43_f, c44_t, c44_f, c45_t, c45_f, c166_T, c166_F, c165_t, c165_f, c169_t, c169_f, c170_t, c170_f, c209_t, c209_f, c244_t, c244_f, H49_t, H49_f, H208_t, H208_f, HXnP, HYnP, HNnP, HOnP, aft_v, aft_n, aft_x1, z00, z10, cond_true, cond_false, ePc, eP, e19, e98, C50t, C50f, HKt, HKf, nI_add, nI_mul, nI_sub, nI_clamp, inbT, oltT, oltF, oleT, oleF, oeqT, oeqF, is01_0, is01_1, AI_q, AI_n, AL_q, AL_n, FI_q, FI_n, AI_ff, AI_fl, AI_la, AI_tt, FI_aa, FI_la, FI_fl, FI_tt, AL_ff, AL_aa, AL_fw, AL_tt]
  obtain ⟨k, hk, rfl⟩ := id h2
  refine opV_of (.int (AI σ 99 p)) (wAI σ 20 p (nI k)) (fun z => wAI (wFI (wAL (wAI σ 20 p (nI k)) 145 0 z) 85 0 (nI 0)) 99 p (nI k)) ⟨_, rfl⟩ (fun d => ?_) (fun z d => ?_) (fun z => ?_) (fun z => rfl) (fun z => rfl) (fun z => Kp_eq rfl rfl)
  · simp (disch := first | omega | assumption | rfl) only [s10_0, s10_5, s10_11, s211_0, s211_10, s211_27, s211_31, c42_t, c42_f, c43_t, c43_f, c44_t, c44_f, c45_t, c45_f, c166_T, c166_F, c165_t, c165_f, c169_t, c169_f, c170_t, c170_f, c209_t, c209_f, c244_t, c244_f, H49_t, H49_f, H208_t, H208_f, HXnP, HYnP, HNnP, HOnP, aft_v, aft_n, aft_x1, z00, z10, cond_true, cond_false, nI_add, nI_mul, nI_sub, nI_clamp, inbT, oltT, oltF, oleT, oleF, oeqT, oeqF, is01_0, is01_1, AI_q, AI_n, AL_q, AL_n, FI_q, FI_n, AI_ff, AI_fl, AI_la, AI_tt, FI_aa, FI_la, FI_fl, FI_tt, AL_ff, AL_aa, AL_fw, AL_tt, e20, C50t]
  · simp (disch := first | omega | assumption | rfl) only [s10_0, s10_5, s10_11, s211_0, s211_10, s211_27, s211_31, c42_t, c42_f, c43_t, c43_f, c44_t, c44_f, c45_t, c45_f, c166_T, c166_F, c165_t, c165_f, c169_t, c169_f, c170_t, c170_f, c209_t, c209_f, c244_t, c244_f, H49_t, H49_f, H208_t, H208_f, HXnP, HYnP, HNnP, HOnP, aft_v, aft_n, aft_x1, z00, z10, cond_true, cond_false, nI_add, nI_mul, nI_sub, nI_clamp, inbT, oltT, oltF, oleT, oleF, oeqT, oeqF, is01_0, is01_1, AI_q, AI_n, AL_q, AL_n, FI_q, FI_n, AI_ff, AI_fl, AI_la, AI_tt, FI_aa, FI_la, FI_fl, FI_tt, AL_ff, AL_aa, AL_fw, AL_tt, e98, HKt]
  · obtain ⟨g0, g1, g2, g3, g4, g5, g6, g7, g8, g9⟩ := @Inv_o σ z hI0
    refine ⟨g0, g1, ⟨g2.1, fun j hj => ?_, g2.2.2⟩, g3, g4, g5, g6, g7, g8, g9⟩
    by_cases q : j = p
    · subst q
      obtain ⟨u1, u2, u3, u4, u5⟩ := hPk j hj
      simp (disch := omega) only [AI_q, AI_n, AL_q, AL_n, FI_q, FI_n, AI_ff, AI_fl, AI_la, AI_tt, FI_aa, FI_la, FI_fl, FI_tt, AL_ff, AL_aa, AL_fw, AL_tt]
      exact ⟨u1, u2, u3, rfl, Or.inr ⟨k, nk, hk, hnk, rfl, e98⟩⟩
    · have := hPk j hj
      simp (disch := omega) only [AI_q, AI_n, AL_q, AL_n, FI_q, FI_n, AI_ff, AI_fl, AI_la, AI_tt, FI_aa, FI_la, FI_fl, FI_tt, AL_ff, AL_aa, AL_fw, AL_tt]
      exact this

set_option maxHeartbeats 2000000 in
theorem op_sold {σ : PS} (hI : Inv σ) (a1 a2 a3 a4 a5 : Int32) : Op (fun d σ => Run false d 11 0 [some (.ref 0), some (.int a1), some (.int a2), some (.int a3), some (.int a4), some (.int a5), none, none] [] σ) (fun d σ => Run false d 212 0 [some (.ref 85), some (.int a1), some (.int a2), some (.int a3), some (.int a4), some (.int a5), none, none] [] σ) σ isI (fun E => if E = 4 then 1 else if E = 1 then 2 else 1) := by
  have hI0 := hI
  obtain ⟨⟨⟨nW, hW, eW, eWc⟩, ⟨nM, hM, eM, eMc⟩, eTr, eIs⟩, ⟨⟨nB, hB, eB, eBc, hBy⟩, eFa, eC10⟩, ⟨⟨nP, hP, eP, ePc, hTr⟩, hPk, hSo, hGr, hCo⟩, ⟨nD, hD, eD, eDc, hDe⟩, ⟨⟨nS, hS, eS, eSc⟩, ⟨nJ, hJ, eJ, eJc, hJo⟩, hPa⟩, ⟨nL, nQ, hL, hQ, eL, eLc, eQ, eQc, hLo, hNo, eFg⟩, ⟨nO, hO, eO, eOc, hOf, hOz⟩, ⟨nA, hA, eA, eAc, hSa⟩, ⟨hBi, hOr⟩, LS, hIL⟩ := hI
  have H49_t := fun (d : Nat) (σ : PS) (a : Int32) => @c49_t d σ a nP
  have H49_f := fun (d : Nat) (σ : PS) (a : Int32) => @c49_f d σ a nP
  have H208_t := fun (d : Nat) (σ : PS) (a : Int32) => @c208_t d σ a nP
  have H208_f := fun (d : Nat) (σ : PS) (a : Int32) => @c208_f d σ a nP
  have HXnP := fun (d : Nat) (σ : PS) (a : Int32) => @c166_X d σ a nP
  have HYnP := fun (d : Nat) (σ : PS) (a : Int32) => @c166_Y d σ a nP
  have HNnP := fun (d : Nat) (σ : PS) (a : Int32) => @c166_N d σ a nP
  have HOnP := fun (d : Nat) (σ : PS) (a : Int32) => @c166_M d σ a nP
  by_cases h1 : IX nP a1
  case neg =>
    refine opE_of hI0 4 1 (.int (nI 0)) ⟨_, rfl⟩ (by decide) rfl (by decide) (fun d => ?_) (fun d => ?_)
    · simp (disch := first | omega | assumption | rfl) only [s11_0, s11_5, s11_9, s11_17, s11_24, s11_32, s212_0, s212_10, s212_18, s212_29, s212_39, s212_50, s212_62, c42_t, c42_f, c43_t, c43_f, c44_t, c44_f, c45_t, c45_f, c166_T, c166_F, c165_t, c165_f, c169_t, c169_f, c170_t, c170_f, c209_t, c209_f, c244_t, c244_f, H49_t, H49_f, H208_t, H208_f, HXnP, HYnP, HNnP, HOnP, aft_v, aft_n, aft_x1, z00, z10, cond_true, cond_false, ePc, eP, AI_q, AI_n, AL_q, AL_n, FI_q, FI_n, AI_ff, AI_fl, AI_la, AI_tt, FI_aa, FI_la, FI_fl, FI_tt, AL_ff, AL_aa, AL_fw, AL_tt]
    · simp (disch := first | omega | assumption | rfl) only [s11_0, s11_5, s11_9, s11_17, s11_24, s11_32, s212_0, s212_10, s212_18, s212_29, s212_39, s212_50, s212_62, c42_t, c42_f, c43_t, c43_f, c44_t, c44_f, c45_t, c45_f, c166_T, c166_F, c165_t, c165_f, c169_t, c169_f, c170_t, c170_f, c209_t, c209_f, c244_t, c244_f, H49_t, H49_f, H208_t, H208_f, HXnP, HYnP, HNnP, HOnP, aft_v, aft_n, aft_x1, z00, z10, cond_true, cond_false, ePc, eP, AI_q, AI_n, AL_q, AL_n, FI_q, FI_n, AI_ff, AI_fl, AI_la, AI_tt, FI_aa, FI_la, FI_fl, FI_tt, AL_ff, AL_aa, AL_fw, AL_tt]
  by_cases h2 : IR 0 40 a2
  case neg =>
    refine opE_of hI0 1 2 (.int (nI 0)) ⟨_, rfl⟩ (by decide) rfl (by decide) (fun d => ?_) (fun d => ?_)
    · simp (disch := first | omega | assumption | rfl) only [s11_0, s11_5, s11_9, s11_17, s11_24, s11_32, s212_0, s212_10, s212_18, s212_29, s212_39, s212_50, s212_62, c42_t, c42_f, c43_t, c43_f, c44_t, c44_f, c45_t, c45_f, c166_T, c166_F, c165_t, c165_f, c169_t, c169_f, c170_t, c170_f, c209_t, c209_f, c244_t, c244_f, H49_t, H49_f, H208_t, H208_f, HXnP, HYnP, HNnP, HOnP, aft_v, aft_n, aft_x1, z00, z10, cond_true, cond_false, ePc, eP, AI_q, AI_n, AL_q, AL_n, FI_q, FI_n, AI_ff, AI_fl, AI_la, AI_tt, FI_aa, FI_la, FI_fl, FI_tt, AL_ff, AL_aa, AL_fw, AL_tt]
    · simp (disch := first | omega | assumption | rfl) only [s11_0, s11_5, s11_9, s11_17, s11_24, s11_32, s212_0, s212_10, s212_18, s212_29, s212_39, s212_50, s212_62, c42_t, c42_f, c43_t, c43_f, c44_t, c44_f, c45_t, c45_f, c166_T, c166_F, c165_t, c165_f, c169_t, c169_f, c170_t, c170_f, c209_t, c209_f, c244_t, c244_f, H49_t, H49_f, H208_t, H208_f, HXnP, HYnP, HNnP, HOnP, aft_v, aft_n, aft_x1, z00, z10, cond_true, cond_false, ePc, eP, AI_q, AI_n, AL_q, AL_n, FI_q, FI_n, AI_ff, AI_fl, AI_la, AI_tt, FI_aa, FI_la, FI_fl, FI_tt, AL_ff, AL_aa, AL_fw, AL_tt]
  by_cases h3 : IR 0 1000 a3
  case neg =>
    refine opE_of hI0 1 2 (.int (nI 0)) ⟨_, rfl⟩ (by decide) rfl (by decide) (fun d => ?_) (fun d => ?_)
    · simp (disch := first | omega | assumption | rfl) only [s11_0, s11_5, s11_9, s11_17, s11_24, s11_32, s212_0, s212_10, s212_18, s212_29, s212_39, s212_50, s212_62, c42_t, c42_f, c43_t, c43_f, c44_t, c44_f, c45_t, c45_f, c166_T, c166_F, c165_t, c165_f, c169_t, c169_f, c170_t, c170_f, c209_t, c209_f, c244_t, c244_f, H49_t, H49_f, H208_t, H208_f, HXnP, HYnP, HNnP, HOnP, aft_v, aft_n, aft_x1, z00, z10, cond_true, cond_false, ePc, eP, AI_q, AI_n, AL_q, AL_n, FI_q, FI_n, AI_ff, AI_fl, AI_la, AI_tt, FI_aa, FI_la, FI_fl, FI_tt, AL_ff, AL_aa, AL_fw, AL_tt]
    · simp (disch := first | omega | assumption | rfl) only [s11_0, s11_5, s11_9, s11_17, s11_24, s11_32, s212_0, s212_10, s212_18, s212_29, s212_39, s212_50, s212_62, c42_t, c42_f, c43_t, c43_f, c44_t, c44_f, c45_t, c45_f, c166_T, c166_F, c165_t, c165_f, c169_t, c169_f, c170_t, c170_f, c209_t, c209_f, c244_t, c244_f, H49_t, H49_f, H208_t, H208_f, HXnP, HYnP, HNnP, HOnP, aft_v, aft_n, aft_x1, z00, z10, cond_true, cond_false, ePc, eP, AI_q, AI_n, AL_q, AL_n, FI_q, FI_n, AI_ff, AI_fl, AI_la, AI_tt, FI_aa, FI_la, FI_fl, FI_tt, AL_ff, AL_aa, AL_fw, AL_tt]
  obtain ⟨s, -, hs, rfl⟩ := id h3
  by_cases h4 : IR 0 s a4
  case neg =>
    refine opE_of hI0 1 2 (.int (nI 0)) ⟨_, rfl⟩ (by decide) rfl (by decide) (fun d => ?_) (fun d => ?_)
    · simp (disch := first | omega | assumption | rfl) only [s11_0, s11_5, s11_9, s11_17, s11_24, s11_32, s212_0, s212_10, s212_18, s212_29, s212_39, s212_50, s212_62, c42_t, c42_f, c43_t, c43_f, c44_t, c44_f, c45_t, c45_f, c166_T, c166_F, c165_t, c165_f, c169_t, c169_f, c170_t, c170_f, c209_t, c209_f, c244_t, c244_f, H49_t, H49_f, H208_t, H208_f, HXnP, HYnP, HNnP, HOnP, aft_v, aft_n, aft_x1, z00, z10, cond_true, cond_false, ePc, eP, AI_q, AI_n, AL_q, AL_n, FI_q, FI_n, AI_ff, AI_fl, AI_la, AI_tt, FI_aa, FI_la, FI_fl, FI_tt, AL_ff, AL_aa, AL_fw, AL_tt]
    · simp (disch := first | omega | assumption | rfl) only [s11_0, s11_5, s11_9, s11_17, s11_24, s11_32, s212_0, s212_10, s212_18, s212_29, s212_39, s212_50, s212_62, c42_t, c42_f, c43_t, c43_f, c44_t, c44_f, c45_t, c45_f, c166_T, c166_F, c165_t, c165_f, c169_t, c169_f, c170_t, c170_f, c209_t, c209_f, c244_t, c244_f, H49_t, H49_f, H208_t, H208_f, HXnP, HYnP, HNnP, HOnP, aft_v, aft_n, aft_x1, z00, z10, cond_true, cond_false, ePc, eP, AI_q, AI_n, AL_q, AL_n, FI_q, FI_n, AI_ff, AI_fl, AI_la, AI_tt, FI_aa, FI_la, FI_fl, FI_tt, AL_ff, AL_aa, AL_fw, AL_tt]
  by_cases h5 : IR 1 50 a5
  case neg =>
    refine opE_of hI0 1 2 (.int (nI 0)) ⟨_, rfl⟩ (by decide) rfl (by decide) (fun d => ?_) (fun d => ?_)
    · simp (disch := first | omega | assumption | rfl) only [s11_0, s11_5, s11_9, s11_17, s11_24, s11_32, s212_0, s212_10, s212_18, s212_29, s212_39, s212_50, s212_62, c42_t, c42_f, c43_t, c43_f, c44_t, c44_f, c45_t, c45_f, c166_T, c166_F, c165_t, c165_f, c169_t, c169_f, c170_t, c170_f, c209_t, c209_f, c244_t, c244_f, H49_t, H49_f, H208_t, H208_f, HXnP, HYnP, HNnP, HOnP, aft_v, aft_n, aft_x1, z00, z10, cond_true, cond_false, ePc, eP, AI_q, AI_n, AL_q, AL_n, FI_q, FI_n, AI_ff, AI_fl, AI_la, AI_tt, FI_aa, FI_la, FI_fl, FI_tt, AL_ff, AL_aa, AL_fw, AL_tt]
    · simp (disch := first | omega | assumption | rfl) only [s11_0, s11_5, s11_9, s11_17, s11_24, s11_32, s212_0, s212_10, s212_18, s212_29, s212_39, s212_50, s212_62, c42_t, c42_f, c43_t, c43_f, c44_t, c44_f, c45_t, c45_f, c166_T, c166_F, c165_t, c165_f, c169_t, c169_f, c170_t, c170_f, c209_t, c209_f, c244_t, c244_f, H49_t, H49_f, H208_t, H208_f, HXnP, HYnP, HNnP, HOnP, aft_v, aft_n, aft_x1, z00, z10, cond_true, cond_false, ePc, eP, AI_q, AI_n, AL_q, AL_n, FI_q, FI_n, AI_ff, AI_fl, AI_la, AI_tt, FI_aa, FI_la, FI_fl, FI_tt, AL_ff, AL_aa, AL_fw, AL_tt]
  obtain ⟨p, hp, rfl⟩ := id h1
  obtain ⟨y, -, hy, rfl⟩ := id h2
  obtain ⟨b, -, hb, rfl⟩ := id h4
  have e41 : p * 41 + y = 41 * p + y := by omega
  refine opV_of (.int (AI σ 102 (41 * p + y))) (wAI (wAI (wAI σ 21 (41 * p + y) (nI s)) 22 (41 * p + y) (nI b)) 23 (41 * p + y) a5) (fun z => wAI (wAI (wAI (wFI (wAL (wAI (wAI (wAI σ 21 (41 * p + y) (nI s)) 22 (41 * p + y) (nI b)) 23 (41 * p + y) a5) 145 0 z) 85 0 (nI 0)) 102 (41 * p + y) (nI s)) 103 (41 * p + y) (nI b)) 104 (41 * p + y) a5) ⟨_, rfl⟩ (fun d => ?_) (fun z d => ?_) (fun z => ?_) (fun z => rfl) (fun z => rfl) (fun z => Kp_eq rfl rfl)
  · simp (disch := first | omega | assumption | rfl) only [s11_0, s11_5, s11_9, s11_17, s11_24, s11_32, s212_0, s212_10, s212_18, s212_29, s212_39, s212_50, s212_62, c42_t, c42_f, c43_t, c43_f, c44_t, c44_f, c45_t, c45_f, c166_T, c166_F, c165_t, c165_f, c169_t, c169_f, c170_t, c170_f, c209_t, c209_f, c244_t, c244_f, H49_t, H49_f, H208_t, H208_f, HXnP, HYnP, HNnP, HOnP, aft_v, aft_n, aft_x1, z00, z10, cond_true, cond_false, nI_add, nI_mul, nI_sub, nI_clamp, inbT, oltT, oltF, oleT, oleF, oeqT, oeqF, is01_0, is01_1, AI_q, AI_n, AL_q, AL_n, FI_q, FI_n, AI_ff, AI_fl, AI_la, AI_tt, FI_aa, FI_la, FI_fl, FI_tt, AL_ff, AL_aa, AL_fw, AL_tt, e41, (hSo (41 * p + y) (by omega)).1]
  · simp (disch := first | omega | assumption | rfl) only [s11_0, s11_5, s11_9, s11_17, s11_24, s11_32, s212_0, s212_10, s212_18, s212_29, s212_39, s212_50, s212_62, c42_t, c42_f, c43_t, c43_f, c44_t, c44_f, c45_t, c45_f, c166_T, c166_F, c165_t, c165_f, c169_t, c169_f, c170_t, c170_f, c209_t, c209_f, c244_t, c244_f, H49_t, H49_f, H208_t, H208_f, HXnP, HYnP, HNnP, HOnP, aft_v, aft_n, aft_x1, z00, z10, cond_true, cond_false, nI_add, nI_mul, nI_sub, nI_clamp, inbT, oltT, oltF, oleT, oleF, oeqT, oeqF, is01_0, is01_1, AI_q, AI_n, AL_q, AL_n, FI_q, FI_n, AI_ff, AI_fl, AI_la, AI_tt, FI_aa, FI_la, FI_fl, FI_tt, AL_ff, AL_aa, AL_fw, AL_tt, ]
  · obtain ⟨g0, g1, g2, g3, g4, g5, g6, g7, g8, g9⟩ := @Inv_o σ z hI0
    refine ⟨g0, g1, ⟨⟨nP, hP, eP, ePc, fun j hj => ?_⟩, g2.2.1, fun j hj => ?_, g2.2.2.2⟩, g3, g4, g5, g6, g7, g8, g9⟩
    · by_cases q : j = 41 * p + y
      · subst q
        simp (disch := omega) only [AI_q, AI_n, AL_q, AL_n, FI_q, FI_n, AI_ff, AI_fl, AI_la, AI_tt, FI_aa, FI_la, FI_fl, FI_tt, AL_ff, AL_aa, AL_fw, AL_tt]
        exact ⟨fun _ => ⟨trivial, h5⟩, fun q => by omega⟩
      · have := hTr j hj
        simp (disch := omega) only [AI_q, AI_n, AL_q, AL_n, FI_q, FI_n, AI_ff, AI_fl, AI_la, AI_tt, FI_aa, FI_la, FI_fl, FI_tt, AL_ff, AL_aa, AL_fw, AL_tt]
        exact this
    · by_cases q : j = 41 * p + y
      · subst q
        simp (disch := omega) only [AI_q, AI_n, AL_q, AL_n, FI_q, FI_n, AI_ff, AI_fl, AI_la, AI_tt, FI_aa, FI_la, FI_fl, FI_tt, AL_ff, AL_aa, AL_fw, AL_tt]
        exact ⟨trivial, trivial, s, b, hb, hs, rfl, rfl⟩
      · have := hSo j hj
        simp (disch := omega) only [AI_q, AI_n, AL_q, AL_n, FI_q, FI_n, AI_ff, AI_fl, AI_la, AI_tt, FI_aa, FI_la, FI_fl, FI_tt, AL_ff, AL_aa, AL_fw, AL_tt]
        exact this
