/-! printed by wip/whole/ops.py: the ops that write no more than they say -/
theorem t25_0 : tswF 29 69 0 3 #[31, 41, 49, 59] (nI 0) = 60 := by decide +kernel
theorem t242_0 : tswF 55 69 0 3 #[29, 39, 49, 59] (nI 0) = 84 := by decide +kernel
theorem t25_1 : tswF 29 69 0 3 #[31, 41, 49, 59] (nI 1) = 70 := by decide +kernel
theorem t242_1 : tswF 55 69 0 3 #[29, 39, 49, 59] (nI 1) = 94 := by decide +kernel
theorem t25_2 : tswF 29 69 0 3 #[31, 41, 49, 59] (nI 2) = 78 := by decide +kernel
theorem t242_2 : tswF 55 69 0 3 #[29, 39, 49, 59] (nI 2) = 104 := by decide +kernel
theorem t25_3 : tswF 29 69 0 3 #[31, 41, 49, 59] (nI 3) = 88 := by decide +kernel
theorem t242_3 : tswF 55 69 0 3 #[29, 39, 49, 59] (nI 3) = 114 := by decide +kernel
theorem t25_4 : tswF 29 69 0 3 #[31, 41, 49, 59] (nI 4) = 98 := by decide +kernel
theorem t242_4 : tswF 55 69 0 3 #[29, 39, 49, 59] (nI 4) = 124 := by decide +kernel
set_option maxHeartbeats 8000000 in
theorem op_owes {σ : PS} (hI : Inv σ) (a1 a2 a3 a4 a5 : Int32) : Op (fun d σ => Run false d 25 0 [some (.ref 0), some (.int a1), some (.int a2), some (.int a3), some (.int a4), some (.int a5)] [] σ) (fun d σ => Run false d 242 0 [some (.ref 85), some (.int a1), some (.int a2), some (.int a3), some (.int a4), some (.int a5)] [] σ) σ isL (fun E => if E = 3 then 1 else if E = 1 then 2 else 0) := by
  have hI0 := hI
  obtain ⟨⟨⟨nW, hW, eW, eWc⟩, ⟨nM, hM, eM, eMc⟩, eTr, eIs⟩, ⟨⟨nB, hB, eB, eBc, hBy⟩, eFa, eC10⟩, ⟨⟨nP, hP, eP, ePc, hTr⟩, hPk, hSo, hGr, hCo⟩, ⟨nD, hD, eD, eDc, hDe⟩, ⟨⟨nS, hS, eS, eSc⟩, ⟨nJ, hJ, eJ, eJc, hJo⟩, hPa⟩, ⟨nL, nQ, hL, hQ, eL, eLc, eQ, eQc, hLo, hNo, eFg⟩, ⟨nO, hO, eO, eOc, hOf, hOz⟩, ⟨nA, hA, eA, eAc, hSa⟩, ⟨hBi, hOr⟩, LS, hIL⟩ := hI
  have H51_t := fun (d : Nat) (σ : PS) (a : Int32) => @c51_t d σ a nS
  have H51_f := fun (d : Nat) (σ : PS) (a : Int32) => @c51_f d σ a nS
  have H52_t := fun (d : Nat) (σ : PS) (a : Int32) => @c52_t d σ a nS
  have H52_f := fun (d : Nat) (σ : PS) (a : Int32) => @c52_f d σ a nS
  have H241_t := fun (d : Nat) (σ : PS) (a c : Int32) => @c241_t d σ a nS c
  have H241_f := fun (d : Nat) (σ : PS) (a c : Int32) => @c241_f d σ a nS c
  have HXnS := fun (d : Nat) (σ : PS) (a : Int32) => @c166_X d σ a nS
  have HYnS := fun (d : Nat) (σ : PS) (a : Int32) => @c166_Y d σ a nS
  have HNnS := fun (d : Nat) (σ : PS) (a : Int32) => @c166_N d σ a nS
  have HOnS := fun (d : Nat) (σ : PS) (a : Int32) => @c166_M d σ a nS
  by_cases h1 : IX nS a1
  case neg =>
    refine opE_of hI0 3 1 (.long (lN 0)) ⟨_, rfl⟩ (by decide) rfl (by decide) (fun d => ?_) (fun d => ?_)
    · simp (disch := first | omega | assumption | exact FI_q | exact nI_10 | exact nI_20 | exact nI_30 | (simp (disch := omega) only [AI_q, AI_n, AL_q, AL_n, FI_q, FI_n, AI_ff, AI_fl, AI_la, AI_tt, FI_aa, FI_la, FI_fl, FI_tt, AL_ff, AL_aa, AL_fw, AL_tt, eW, eWc, eM, eMc, eB, eBc, eP, ePc, eD, eDc, eS, eSc, eJ, eJc, eL, eLc, eQ, eQc, eO, eOc, eA, eAc]; done) | fail) only [s25_0, s25_5, s25_9, s25_13, s25_20, s25_27, s25_60, s25_69, s25_70, s25_77, s25_78, s25_87, s25_88, s25_97, s25_98, s25_105, s242_0, s242_11, s242_19, s242_26, s242_36, s242_48, s242_84, s242_93, s242_94, s242_103, s242_104, s242_113, s242_114, s242_123, s242_124, s242_133, c46_t, c46_f, c42_t, c42_f, c43_t, c43_f, c44_t, c44_f, c45_t, c45_f, c166_T, c166_F, c165_t, c165_f, c169_t, c169_f, c170_t, c170_f, c209_t, c209_f, c244_t, c244_f, H51_t, H51_f, H52_t, H52_f, H241_t, H241_f, HXnS, HYnS, HNnS, HOnS, aft_v, aft_n, aft_x2, z00, z10, oTr, oFa, cond_true, cond_false, nI_add, nI_mul, nI_s1, nI_clamp, inbT, oltT, oltF, oleT, oleF, oeqT, oeqF, is01_0, is01_1, AI_q, AI_n, AL_q, AL_n, FI_q, FI_n, AI_ff, AI_fl, AI_la, AI_tt, FI_aa, FI_la, FI_fl, FI_tt, AL_ff, AL_aa, AL_fw, AL_tt, eW, eWc, eM, eMc, eB, eBc, eP, ePc, eD, eDc, eS, eSc, eJ, eJc, eL, eLc, eQ, eQc, eO, eOc, eA, eAc]
    · simp (disch := first | omega | assumption | exact FI_q | exact nI_10 | exact nI_20 | exact nI_30 | (simp (disch := omega) only [AI_q, AI_n, AL_q, AL_n, FI_q, FI_n, AI_ff, AI_fl, AI_la, AI_tt, FI_aa, FI_la, FI_fl, FI_tt, AL_ff, AL_aa, AL_fw, AL_tt, eW, eWc, eM, eMc, eB, eBc, eP, ePc, eD, eDc, eS, eSc, eJ, eJc, eL, eLc, eQ, eQc, eO, eOc, eA, eAc]; done) | fail) only [s25_0, s25_5, s25_9, s25_13, s25_20, s25_27, s25_60, s25_69, s25_70, s25_77, s25_78, s25_87, s25_88, s25_97, s25_98, s25_105, s242_0, s242_11, s242_19, s242_26, s242_36, s242_48, s242_84, s242_93, s242_94, s242_103, s242_104, s242_113, s242_114, s242_123, s242_124, s242_133, c46_t, c46_f, c42_t, c42_f, c43_t, c43_f, c44_t, c44_f, c45_t, c45_f, c166_T, c166_F, c165_t, c165_f, c169_t, c169_f, c170_t, c170_f, c209_t, c209_f, c244_t, c244_f, H51_t, H51_f, H52_t, H52_f, H241_t, H241_f, HXnS, HYnS, HNnS, HOnS, aft_v, aft_n, aft_x2, z00, z10, oTr, oFa, cond_true, cond_false, nI_add, nI_mul, nI_s1, nI_clamp, inbT, oltT, oltF, oleT, oleF, oeqT, oeqF, is01_0, is01_1, AI_q, AI_n, AL_q, AL_n, FI_q, FI_n, AI_ff, AI_fl, AI_la, AI_tt, FI_aa, FI_la, FI_fl, FI_tt, AL_ff, AL_aa, AL_fw, AL_tt, eW, eWc, eM, eMc, eB, eBc, eP, ePc, eD, eDc, eS, eSc, eJ, eJc, eL, eLc, eQ, eQc, eO, eOc, eA, eAc]
  by_cases h2 : IR 0 4 a2
  case neg =>
    refine opE_of hI0 1 2 (.long (lN 0)) ⟨_, rfl⟩ (by decide) rfl (by decide) (fun d => ?_) (fun d => ?_)
    · simp (disch := first | omega | assumption | exact FI_q | exact nI_10 | exact nI_20 | exact nI_30 | (simp (disch := omega) only [AI_q, AI_n, AL_q, AL_n, FI_q, FI_n, AI_ff, AI_fl, AI_la, AI_tt, FI_aa, FI_la, FI_fl, FI_tt, AL_ff, AL_aa, AL_fw, AL_tt, eW, eWc, eM, eMc, eB, eBc, eP, ePc, eD, eDc, eS, eSc, eJ, eJc, eL, eLc, eQ, eQc, eO, eOc, eA, eAc]; done) | fail) only [s25_0, s25_5, s25_9, s25_13, s25_20, s25_27, s25_60, s25_69, s25_70, s25_77, s25_78, s25_87, s25_88, s25_97, s25_98, s25_105, s242_0, s242_11, s242_19, s242_26, s242_36, s242_48, s242_84, s242_93, s242_94, s242_103, s242_104, s242_113, s242_114, s242_123, s242_124, s242_133, c46_t, c46_f, c42_t, c42_f, c43_t, c43_f, c44_t, c44_f, c45_t, c45_f, c166_T, c166_F, c165_t, c165_f, c169_t, c169_f, c170_t, c170_f, c209_t, c209_f, c244_t, c244_f, H51_t, H51_f, H52_t, H52_f, H241_t, H241_f, HXnS, HYnS, HNnS, HOnS, aft_v, aft_n, aft_x2, z00, z10, oTr, oFa, cond_true, cond_false, nI_add, nI_mul, nI_s1, nI_clamp, inbT, oltT, oltF, oleT, oleF, oeqT, oeqF, is01_0, is01_1, AI_q, AI_n, AL_q, AL_n, FI_q, FI_n, AI_ff, AI_fl, AI_la, AI_tt, FI_aa, FI_la, FI_fl, FI_tt, AL_ff, AL_aa, AL_fw, AL_tt, eW, eWc, eM, eMc, eB, eBc, eP, ePc, eD, eDc, eS, eSc, eJ, eJc, eL, eLc, eQ, eQc, eO, eOc, eA, eAc]
    · simp (disch := first | omega | assumption | exact FI_q | exact nI_10 | exact nI_20 | exact nI_30 | (simp (disch := omega) only [AI_q, AI_n, AL_q, AL_n, FI_q, FI_n, AI_ff, AI_fl, AI_la, AI_tt, FI_aa, FI_la, FI_fl, FI_tt, AL_ff, AL_aa, AL_fw, AL_tt, eW, eWc, eM, eMc, eB, eBc, eP, ePc, eD, eDc, eS, eSc, eJ, eJc, eL, eLc, eQ, eQc, eO, eOc, eA, eAc]; done) | fail) only [s25_0, s25_5, s25_9, s25_13, s25_20, s25_27, s25_60, s25_69, s25_70, s25_77, s25_78, s25_87, s25_88, s25_97, s25_98, s25_105, s242_0, s242_11, s242_19, s242_26, s242_36, s242_48, s242_84, s242_93, s242_94, s242_103, s242_104, s242_113, s242_114, s242_123, s242_124, s242_133, c46_t, c46_f, c42_t, c42_f, c43_t, c43_f, c44_t, c44_f, c45_t, c45_f, c166_T, c166_F, c165_t, c165_f, c169_t, c169_f, c170_t, c170_f, c209_t, c209_f, c244_t, c244_f, H51_t, H51_f, H52_t, H52_f, H241_t, H241_f, HXnS, HYnS, HNnS, HOnS, aft_v, aft_n, aft_x2, z00, z10, oTr, oFa, cond_true, cond_false, nI_add, nI_mul, nI_s1, nI_clamp, inbT, oltT, oltF, oleT, oleF, oeqT, oeqF, is01_0, is01_1, AI_q, AI_n, AL_q, AL_n, FI_q, FI_n, AI_ff, AI_fl, AI_la, AI_tt, FI_aa, FI_la, FI_fl, FI_tt, AL_ff, AL_aa, AL_fw, AL_tt, eW, eWc, eM, eMc, eB, eBc, eP, ePc, eD, eDc, eS, eSc, eJ, eJc, eL, eLc, eQ, eQc, eO, eOc, eA, eAc]
  by_cases h3 : IR 0 40 a3
  case neg =>
    refine opE_of hI0 1 2 (.long (lN 0)) ⟨_, rfl⟩ (by decide) rfl (by decide) (fun d => ?_) (fun d => ?_)
    · simp (disch := first | omega | assumption | exact FI_q | exact nI_10 | exact nI_20 | exact nI_30 | (simp (disch := omega) only [AI_q, AI_n, AL_q, AL_n, FI_q, FI_n, AI_ff, AI_fl, AI_la, AI_tt, FI_aa, FI_la, FI_fl, FI_tt, AL_ff, AL_aa, AL_fw, AL_tt, eW, eWc, eM, eMc, eB, eBc, eP, ePc, eD, eDc, eS, eSc, eJ, eJc, eL, eLc, eQ, eQc, eO, eOc, eA, eAc]; done) | fail) only [s25_0, s25_5, s25_9, s25_13, s25_20, s25_27, s25_60, s25_69, s25_70, s25_77, s25_78, s25_87, s25_88, s25_97, s25_98, s25_105, s242_0, s242_11, s242_19, s242_26, s242_36, s242_48, s242_84, s242_93, s242_94, s242_103, s242_104, s242_113, s242_114, s242_123, s242_124, s242_133, c46_t, c46_f, c42_t, c42_f, c43_t, c43_f, c44_t, c44_f, c45_t, c45_f, c166_T, c166_F, c165_t, c165_f, c169_t, c169_f, c170_t, c170_f, c209_t, c209_f, c244_t, c244_f, H51_t, H51_f, H52_t, H52_f, H241_t, H241_f, HXnS, HYnS, HNnS, HOnS, aft_v, aft_n, aft_x2, z00, z10, oTr, oFa, cond_true, cond_false, nI_add, nI_mul, nI_s1, nI_clamp, inbT, oltT, oltF, oleT, oleF, oeqT, oeqF, is01_0, is01_1, AI_q, AI_n, AL_q, AL_n, FI_q, FI_n, AI_ff, AI_fl, AI_la, AI_tt, FI_aa, FI_la, FI_fl, FI_tt, AL_ff, AL_aa, AL_fw, AL_tt, eW, eWc, eM, eMc, eB, eBc, eP, ePc, eD, eDc, eS, eSc, eJ, eJc, eL, eLc, eQ, eQc, eO, eOc, eA, eAc]
    · simp (disch := first | omega | assumption | exact FI_q | exact nI_10 | exact nI_20 | exact nI_30 | (simp (disch := omega) only [AI_q, AI_n, AL_q, AL_n, FI_q, FI_n, AI_ff, AI_fl, AI_la, AI_tt, FI_aa, FI_la, FI_fl, FI_tt, AL_ff, AL_aa, AL_fw, AL_tt, eW, eWc, eM, eMc, eB, eBc, eP, ePc, eD, eDc, eS, eSc, eJ, eJc, eL, eLc, eQ, eQc, eO, eOc, eA, eAc]; done) | fail) only [s25_0, s25_5, s25_9, s25_13, s25_20, s25_27, s25_60, s25_69, s25_70, s25_77, s25_78, s25_87, s25_88, s25_97, s25_98, s25_105, s242_0, s242_11, s242_19, s242_26, s242_36, s242_48, s242_84, s242_93, s242_94, s242_103, s242_104, s242_113, s242_114, s242_123, s242_124, s242_133, c46_t, c46_f, c42_t, c42_f, c43_t, c43_f, c44_t, c44_f, c45_t, c45_f, c166_T, c166_F, c165_t, c165_f, c169_t, c169_f, c170_t, c170_f, c209_t, c209_f, c244_t, c244_f, H51_t, H51_f, H52_t, H52_f, H241_t, H241_f, HXnS, HYnS, HNnS, HOnS, aft_v, aft_n, aft_x2, z00, z10, oTr, oFa, cond_true, cond_false, nI_add, nI_mul, nI_s1, nI_clamp, inbT, oltT, oltF, oleT, oleF, oeqT, oeqF, is01_0, is01_1, AI_q, AI_n, AL_q, AL_n, FI_q, FI_n, AI_ff, AI_fl, AI_la, AI_tt, FI_aa, FI_la, FI_fl, FI_tt, AL_ff, AL_aa, AL_fw, AL_tt, eW, eWc, eM, eMc, eB, eBc, eP, ePc, eD, eDc, eS, eSc, eJ, eJc, eL, eLc, eQ, eQc, eO, eOc, eA, eAc]
  by_cases h4 : IR 0 4 a5
  case neg =>
    refine opE_of hI0 1 2 (.long (lN 0)) ⟨_, rfl⟩ (by decide) rfl (by decide) (fun d => ?_) (fun d => ?_)
    · simp (disch := first | omega | assumption | exact FI_q | exact nI_10 | exact nI_20 | exact nI_30 | (simp (disch := omega) only [AI_q, AI_n, AL_q, AL_n, FI_q, FI_n, AI_ff, AI_fl, AI_la, AI_tt, FI_aa, FI_la, FI_fl, FI_tt, AL_ff, AL_aa, AL_fw, AL_tt, eW, eWc, eM, eMc, eB, eBc, eP, ePc, eD, eDc, eS, eSc, eJ, eJc, eL, eLc, eQ, eQc, eO, eOc, eA, eAc]; done) | fail) only [s25_0, s25_5, s25_9, s25_13, s25_20, s25_27, s25_60, s25_69, s25_70, s25_77, s25_78, s25_87, s25_88, s25_97, s25_98, s25_105, s242_0, s242_11, s242_19, s242_26, s242_36, s242_48, s242_84, s242_93, s242_94, s242_103, s242_104, s242_113, s242_114, s242_123, s242_124, s242_133, c46_t, c46_f, c42_t, c42_f, c43_t, c43_f, c44_t, c44_f, c45_t, c45_f, c166_T, c166_F, c165_t, c165_f, c169_t, c169_f, c170_t, c170_f, c209_t, c209_f, c244_t, c244_f, H51_t, H51_f, H52_t, H52_f, H241_t, H241_f, HXnS, HYnS, HNnS, HOnS, aft_v, aft_n, aft_x2, z00, z10, oTr, oFa, cond_true, cond_false, nI_add, nI_mul, nI_s1, nI_clamp, inbT, oltT, oltF, oleT, oleF, oeqT, oeqF, is01_0, is01_1, AI_q, AI_n, AL_q, AL_n, FI_q, FI_n, AI_ff, AI_fl, AI_la, AI_tt, FI_aa, FI_la, FI_fl, FI_tt, AL_ff, AL_aa, AL_fw, AL_tt, eW, eWc, eM, eMc, eB, eBc, eP, ePc, eD, eDc, eS, eSc, eJ, eJc, eL, eLc, eQ, eQc, eO, eOc, eA, eAc]
    · simp (disch := first | omega | assumption | exact FI_q | exact nI_10 | exact nI_20 | exact nI_30 | (simp (disch := omega) only [AI_q, AI_n, AL_q, AL_n, FI_q, FI_n, AI_ff, AI_fl, AI_la, AI_tt, FI_aa, FI_la, FI_fl, FI_tt, AL_ff, AL_aa, AL_fw, AL_tt, eW, eWc, eM, eMc, eB, eBc, eP, ePc, eD, eDc, eS, eSc, eJ, eJc, eL, eLc, eQ, eQc, eO, eOc, eA, eAc]; done) | fail) only [s25_0, s25_5, s25_9, s25_13, s25_20, s25_27, s25_60, s25_69, s25_70, s25_77, s25_78, s25_87, s25_88, s25_97, s25_98, s25_105, s242_0, s242_11, s242_19, s242_26, s242_36, s242_48, s242_84, s242_93, s242_94, s242_103, s242_104, s242_113, s242_114, s242_123, s242_124, s242_133, c46_t, c46_f, c42_t, c42_f, c43_t, c43_f, c44_t, c44_f, c45_t, c45_f, c166_T, c166_F, c165_t, c165_f, c169_t, c169_f, c170_t, c170_f, c209_t, c209_f, c244_t, c244_f, H51_t, H51_f, H52_t, H52_f, H241_t, H241_f, HXnS, HYnS, HNnS, HOnS, aft_v, aft_n, aft_x2, z00, z10, oTr, oFa, cond_true, cond_false, nI_add, nI_mul, nI_s1, nI_clamp, inbT, oltT, oltF, oleT, oleF, oeqT, oeqF, is01_0, is01_1, AI_q, AI_n, AL_q, AL_n, FI_q, FI_n, AI_ff, AI_fl, AI_la, AI_tt, FI_aa, FI_la, FI_fl, FI_tt, AL_ff, AL_aa, AL_fw, AL_tt, eW, eWc, eM, eMc, eB, eBc, eP, ePc, eD, eDc, eS, eSc, eJ, eJc, eL, eLc, eQ, eQc, eO, eOc, eA, eAc]
  obtain ⟨c, hc, rfl⟩ := id h1
  obtain ⟨s, -, hs, rfl⟩ := id h2
  obtain ⟨y, -, hy, rfl⟩ := id h3
  obtain ⟨w, -, hw, rfl⟩ := id h4
  have hS4 := hS
  have hC := IL_C hIL
  have hM' := IL_M hIL eIs
  have hPP : IP σ := hI0.2.2.1
  have hD' : ID σ := hI0.2.2.2.1
  have hSS : IS σ := hI0.2.2.2.2.1
  have hMM : IM σ := hI0.2.2.2.2.2.2.2.1
  have hOO : IO_ σ := hI0.2.2.2.2.2.1
  have hFF : IF_ σ := hI0.2.2.2.2.2.2.1
  have hdb : ∀ m s, dcN σ y a4 nD m s ≤ 10000000 := fun m s => (dcN_e hD' eD hD).2
  obtain ⟨eo84, o, -, ho2, eo⟩ := hOr (s * 41 + y) (by omega)
  have e41 : s * 41 + y = 41 * s + y := by omega
  rw [eo] at eo84
  match w, hw with
  | 0, _ =>
    refine opQ_of hI0 (.long (lN (wgN (fun m => (inR σ m y nJ).2) (fun m => b1 (sumN (dcN σ y a4 nD m) 5 < numV (clL LS 5 0 y) 0)) (dcN σ y a4 nD) (nI c) s nM))) ⟨_, rfl⟩ (fun d => ?_) (fun σ1 z e ho => ?_)
    · skip
      obtain ⟨τ, o1, v1, r1⟩ := c55 (d := d + 39) (k := a4) (by omega) hy hC hD' eDc hD hSS eJc hJ eMc hM
      have e84 : AI τ 84 (s * 41 + y) = nI o := by rw [offA o1 84 rfl]; exact eo84
      have hIt := Inv_off o1 hI0
      have hCW : CW τ LS nM nS (dcN σ y a4 nD) (fun m => sumN (dcN σ y a4 nD m) 5 < numV (clL LS 5 0 y) 0) (fun m => (inR σ m y nJ).2) := ⟨v1, LC_off o1 hC, (offF o1 0 1 rfl).trans eMc, (offF o1 31 0 rfl).trans eSc, hM, hS4, hdb⟩
      have k1 := c86 (d := d + 39) (c := nI c) (s := s) (by omega) hCW (by omega)
      refine ⟨τ, o1, ?_⟩
      simp (disch := first | omega | assumption | exact FI_q | exact nI_10 | exact nI_20 | exact nI_30 | (simp (disch := omega) only [AI_q, AI_n, AL_q, AL_n, FI_q, FI_n, AI_ff, AI_fl, AI_la, AI_tt, FI_aa, FI_la, FI_fl, FI_tt, AL_ff, AL_aa, AL_fw, AL_tt, eW, eWc, eM, eMc, eB, eBc, eP, ePc, eD, eDc, eS, eSc, eJ, eJc, eL, eLc, eQ, eQc, eO, eOc, eA, eAc]; done) | fail) only [s25_0, s25_5, s25_9, s25_13, s25_20, s25_27, s25_60, s25_69, s25_70, s25_77, s25_78, s25_87, s25_88, s25_97, s25_98, s25_105, s242_0, s242_11, s242_19, s242_26, s242_36, s242_48, s242_84, s242_93, s242_94, s242_103, s242_104, s242_113, s242_114, s242_123, s242_124, s242_133, c46_t, c46_f, c42_t, c42_f, c43_t, c43_f, c44_t, c44_f, c45_t, c45_f, c166_T, c166_F, c165_t, c165_f, c169_t, c169_f, c170_t, c170_f, c209_t, c209_f, c244_t, c244_f, H51_t, H51_f, H52_t, H52_f, H241_t, H241_f, HXnS, HYnS, HNnS, HOnS, aft_v, aft_n, aft_x2, z00, z10, oTr, oFa, cond_true, cond_false, nI_add, nI_mul, nI_s1, nI_clamp, inbT, oltT, oltF, oleT, oleF, oeqT, oeqF, is01_0, is01_1, AI_q, AI_n, AL_q, AL_n, FI_q, FI_n, AI_ff, AI_fl, AI_la, AI_tt, FI_aa, FI_la, FI_fl, FI_tt, AL_ff, AL_aa, AL_fw, AL_tt, eW, eWc, eM, eMc, eB, eBc, eP, ePc, eD, eDc, eS, eSc, eJ, eJc, eL, eLc, eQ, eQc, eO, eOc, eA, eAc, r1, t25_0, k1]
    · skip
      have hM0 : LM LS none σ1 := LM_off ho hM'
      have hM1 : LM LS none (wFI (wAL σ1 145 0 z) 85 0 (nI 0)) := hM0
      have hD1 : ID (wFI (wAL σ1 145 0 z) 85 0 (nI 0)) := (ID_off ho hD' : ID σ1)
      have hN1 : FI (wFI (wAL σ1 145 0 z) 85 0 (nI 0)) 85 39 = nI nD := (offF ho 85 39 rfl).trans eD
      have hT1 : FI (wFI (wAL σ1 145 0 z) 85 0 (nI 0)) 85 45 = -1 := (offF ho 85 45 rfl).trans eTr
      have eDD : dcN (wFI (wAL σ1 145 0 z) 85 0 (nI 0)) y a4 nD = dcN σ y a4 nD := dcN_z.trans (dcN_off' ho)
      have hX := DM_no (y := y) (k := a4) hD1 hN1 hD hT1
      rw [eDD] at hX
      have hI1 : Inv (wFI (wAL σ1 145 0 z) 85 0 (nI 0)) := Inv_tn (Inv_o (Inv_off ho hI0))
      have hSz : IS2 (wFI (wAL σ1 145 0 z) 85 0 (nI 0)) := hI1.2.2.2.2.1.2.1
      have eIn : (fun m => (inR (wFI (wAL σ1 145 0 z) 85 0 (nI 0)) m y nJ).2) = (fun m => (inR σ m y nJ).2) := by
        funext m
        rw [inR_c (σ := σ1) (τ := wFI (wAL σ1 145 0 z) 85 0 (nI 0)) rfl rfl rfl, inR_off ho]
      have hMW := MW_of (σ := wFI (wAL σ1 145 0 z) 85 0 (nI 0)) (nJ := nJ) (M := nM) (nS := nS) hM1 hX hSz ((offF ho 85 53 rfl).trans eJ) hJ ((offF ho 85 29 rfl).trans eM) hM ((offF ho 85 52 rfl).trans eS) hS4 hy
      rw [eIn] at hMW
      have k1 := c236 (d := e + 39) (c := nI c) (s := s) (by omega) hMW (by omega)
      refine ⟨_, off_r, ?_⟩
      have eW1 := (offF ho 85 1 rfl).trans eW
      have eM1 := (offF ho 85 29 rfl).trans eM
      have eB1 := (offF ho 85 2 rfl).trans eB
      have eP1 := (offF ho 85 30 rfl).trans eP
      have eD1 := (offF ho 85 39 rfl).trans eD
      have eS1 := (offF ho 85 52 rfl).trans eS
      have eJ1 := (offF ho 85 53 rfl).trans eJ
      have eL1 := (offF ho 85 62 rfl).trans eL
      have eQ1 := (offF ho 85 63 rfl).trans eQ
      have eO1 := (offF ho 85 75 rfl).trans eO
      have eA1 := (offF ho 85 85 rfl).trans eA
      simp (disch := first | omega | assumption | exact FI_q | exact nI_10 | exact nI_20 | exact nI_30 | (simp (disch := omega) only [AI_q, AI_n, AL_q, AL_n, FI_q, FI_n, AI_ff, AI_fl, AI_la, AI_tt, FI_aa, FI_la, FI_fl, FI_tt, AL_ff, AL_aa, AL_fw, AL_tt, eW1, eM1, eB1, eP1, eD1, eS1, eJ1, eL1, eQ1, eO1, eA1]; done) | fail) only [s25_0, s25_5, s25_9, s25_13, s25_20, s25_27, s25_60, s25_69, s25_70, s25_77, s25_78, s25_87, s25_88, s25_97, s25_98, s25_105, s242_0, s242_11, s242_19, s242_26, s242_36, s242_48, s242_84, s242_93, s242_94, s242_103, s242_104, s242_113, s242_114, s242_123, s242_124, s242_133, c46_t, c46_f, c42_t, c42_f, c43_t, c43_f, c44_t, c44_f, c45_t, c45_f, c166_T, c166_F, c165_t, c165_f, c169_t, c169_f, c170_t, c170_f, c209_t, c209_f, c244_t, c244_f, H51_t, H51_f, H52_t, H52_f, H241_t, H241_f, HXnS, HYnS, HNnS, HOnS, aft_v, aft_n, aft_x2, z00, z10, oTr, oFa, cond_true, cond_false, nI_add, nI_mul, nI_s1, nI_clamp, inbT, oltT, oltF, oleT, oleF, oeqT, oeqF, is01_0, is01_1, AI_q, AI_n, AL_q, AL_n, FI_q, FI_n, AI_ff, AI_fl, AI_la, AI_tt, FI_aa, FI_la, FI_fl, FI_tt, AL_ff, AL_aa, AL_fw, AL_tt, eW, eWc, eM, eMc, eB, eBc, eP, ePc, eD, eDc, eS, eSc, eJ, eJc, eL, eLc, eQ, eQc, eO, eOc, eA, eAc, eW1, eM1, eB1, eP1, eD1, eS1, eJ1, eL1, eQ1, eO1, eA1, t242_0, k1]
  | 1, _ =>
    refine opQ_of hI0 (.long (bdV (fun m => (inR σ m y nJ).2) (fun m => b1 (sumN (dcN σ y a4 nD m) 5 < numV (clL LS 5 0 y) 0)) (dcN σ y a4 nD) LS y nM nS o c s)) ⟨_, rfl⟩ (fun d => ?_) (fun σ1 z e ho => ?_)
    · skip
      obtain ⟨τ, o1, v1, r1⟩ := c55 (d := d + 39) (k := a4) (by omega) hy hC hD' eDc hD hSS eJc hJ eMc hM
      have e84 : AI τ 84 (s * 41 + y) = nI o := by rw [offA o1 84 rfl]; exact eo84
      have hIt := Inv_off o1 hI0
      have hCW : CW τ LS nM nS (dcN σ y a4 nD) (fun m => sumN (dcN σ y a4 nD m) 5 < numV (clL LS 5 0 y) 0) (fun m => (inR σ m y nJ).2) := ⟨v1, LC_off o1 hC, (offF o1 0 1 rfl).trans eMc, (offF o1 31 0 rfl).trans eSc, hM, hS4, hdb⟩
      obtain ⟨τ', p1, k1⟩ := c65 (d := d + 39) (c := c) (by omega) hy hCW (by omega) hc e84 ho2
      refine ⟨τ', off_t o1 (pt_C p1), ?_⟩
      simp (disch := first | omega | assumption | exact FI_q | exact nI_10 | exact nI_20 | exact nI_30 | (simp (disch := omega) only [AI_q, AI_n, AL_q, AL_n, FI_q, FI_n, AI_ff, AI_fl, AI_la, AI_tt, FI_aa, FI_la, FI_fl, FI_tt, AL_ff, AL_aa, AL_fw, AL_tt, eW, eWc, eM, eMc, eB, eBc, eP, ePc, eD, eDc, eS, eSc, eJ, eJc, eL, eLc, eQ, eQc, eO, eOc, eA, eAc]; done) | fail) only [s25_0, s25_5, s25_9, s25_13, s25_20, s25_27, s25_60, s25_69, s25_70, s25_77, s25_78, s25_87, s25_88, s25_97, s25_98, s25_105, s242_0, s242_11, s242_19, s242_26, s242_36, s242_48, s242_84, s242_93, s242_94, s242_103, s242_104, s242_113, s242_114, s242_123, s242_124, s242_133, c46_t, c46_f, c42_t, c42_f, c43_t, c43_f, c44_t, c44_f, c45_t, c45_f, c166_T, c166_F, c165_t, c165_f, c169_t, c169_f, c170_t, c170_f, c209_t, c209_f, c244_t, c244_f, H51_t, H51_f, H52_t, H52_f, H241_t, H241_f, HXnS, HYnS, HNnS, HOnS, aft_v, aft_n, aft_x2, z00, z10, oTr, oFa, cond_true, cond_false, nI_add, nI_mul, nI_s1, nI_clamp, inbT, oltT, oltF, oleT, oleF, oeqT, oeqF, is01_0, is01_1, AI_q, AI_n, AL_q, AL_n, FI_q, FI_n, AI_ff, AI_fl, AI_la, AI_tt, FI_aa, FI_la, FI_fl, FI_tt, AL_ff, AL_aa, AL_fw, AL_tt, eW, eWc, eM, eMc, eB, eBc, eP, ePc, eD, eDc, eS, eSc, eJ, eJc, eL, eLc, eQ, eQc, eO, eOc, eA, eAc, r1, t25_1, k1]
    · skip
      have hM0 : LM LS none σ1 := LM_off ho hM'
      have hM1 : LM LS none (wFI (wAL σ1 145 0 z) 85 0 (nI 0)) := hM0
      have hD1 : ID (wFI (wAL σ1 145 0 z) 85 0 (nI 0)) := (ID_off ho hD' : ID σ1)
      have hN1 : FI (wFI (wAL σ1 145 0 z) 85 0 (nI 0)) 85 39 = nI nD := (offF ho 85 39 rfl).trans eD
      have hT1 : FI (wFI (wAL σ1 145 0 z) 85 0 (nI 0)) 85 45 = -1 := (offF ho 85 45 rfl).trans eTr
      have eDD : dcN (wFI (wAL σ1 145 0 z) 85 0 (nI 0)) y a4 nD = dcN σ y a4 nD := dcN_z.trans (dcN_off' ho)
      have hX := DM_no (y := y) (k := a4) hD1 hN1 hD hT1
      rw [eDD] at hX
      have hI1 : Inv (wFI (wAL σ1 145 0 z) 85 0 (nI 0)) := Inv_tn (Inv_o (Inv_off ho hI0))
      have hSz : IS2 (wFI (wAL σ1 145 0 z) 85 0 (nI 0)) := hI1.2.2.2.2.1.2.1
      have eIn : (fun m => (inR (wFI (wAL σ1 145 0 z) 85 0 (nI 0)) m y nJ).2) = (fun m => (inR σ m y nJ).2) := by
        funext m
        rw [inR_c (σ := σ1) (τ := wFI (wAL σ1 145 0 z) 85 0 (nI 0)) rfl rfl rfl, inR_off ho]
      have hMW := MW_of (σ := wFI (wAL σ1 145 0 z) 85 0 (nI 0)) (nJ := nJ) (M := nM) (nS := nS) hM1 hX hSz ((offF ho 85 53 rfl).trans eJ) hJ ((offF ho 85 29 rfl).trans eM) hM ((offF ho 85 52 rfl).trans eS) hS4 hy
      rw [eIn] at hMW
      have e117 : AI (wFI (wAL σ1 145 0 z) 85 0 (nI 0)) 117 (41 * s + y) = nI o := by
        show AI σ1 117 (41 * s + y) = nI o
        rw [offA ho 117 rfl, ← e41]; exact eo
      obtain ⟨τ', p1, k1⟩ := c239 (d := e + 39) (c := c) (by omega) hy hMW (by omega) hc e117 ho2
      refine ⟨τ', pt_M p1, ?_⟩
      have eW1 := (offF ho 85 1 rfl).trans eW
      have eM1 := (offF ho 85 29 rfl).trans eM
      have eB1 := (offF ho 85 2 rfl).trans eB
      have eP1 := (offF ho 85 30 rfl).trans eP
      have eD1 := (offF ho 85 39 rfl).trans eD
      have eS1 := (offF ho 85 52 rfl).trans eS
      have eJ1 := (offF ho 85 53 rfl).trans eJ
      have eL1 := (offF ho 85 62 rfl).trans eL
      have eQ1 := (offF ho 85 63 rfl).trans eQ
      have eO1 := (offF ho 85 75 rfl).trans eO
      have eA1 := (offF ho 85 85 rfl).trans eA
      simp (disch := first | omega | assumption | exact FI_q | exact nI_10 | exact nI_20 | exact nI_30 | (simp (disch := omega) only [AI_q, AI_n, AL_q, AL_n, FI_q, FI_n, AI_ff, AI_fl, AI_la, AI_tt, FI_aa, FI_la, FI_fl, FI_tt, AL_ff, AL_aa, AL_fw, AL_tt, eW1, eM1, eB1, eP1, eD1, eS1, eJ1, eL1, eQ1, eO1, eA1]; done) | fail) only [s25_0, s25_5, s25_9, s25_13, s25_20, s25_27, s25_60, s25_69, s25_70, s25_77, s25_78, s25_87, s25_88, s25_97, s25_98, s25_105, s242_0, s242_11, s242_19, s242_26, s242_36, s242_48, s242_84, s242_93, s242_94, s242_103, s242_104, s242_113, s242_114, s242_123, s242_124, s242_133, c46_t, c46_f, c42_t, c42_f, c43_t, c43_f, c44_t, c44_f, c45_t, c45_f, c166_T, c166_F, c165_t, c165_f, c169_t, c169_f, c170_t, c170_f, c209_t, c209_f, c244_t, c244_f, H51_t, H51_f, H52_t, H52_f, H241_t, H241_f, HXnS, HYnS, HNnS, HOnS, aft_v, aft_n, aft_x2, z00, z10, oTr, oFa, cond_true, cond_false, nI_add, nI_mul, nI_s1, nI_clamp, inbT, oltT, oltF, oleT, oleF, oeqT, oeqF, is01_0, is01_1, AI_q, AI_n, AL_q, AL_n, FI_q, FI_n, AI_ff, AI_fl, AI_la, AI_tt, FI_aa, FI_la, FI_fl, FI_tt, AL_ff, AL_aa, AL_fw, AL_tt, eW, eWc, eM, eMc, eB, eBc, eP, ePc, eD, eDc, eS, eSc, eJ, eJc, eL, eLc, eQ, eQc, eO, eOc, eA, eAc, eW1, eM1, eB1, eP1, eD1, eS1, eJ1, eL1, eQ1, eO1, eA1, t242_1, k1]
  | 2, _ =>
    refine opQ_of hI0 (.long (lN (ntV σ (nI c) (nI s) (nI y) a4 nQ + ofV σ (nI c) (nI s) (nI y) a4 nO))) ⟨_, rfl⟩ (fun d => ?_) (fun σ1 z e ho => ?_)
    · skip
      obtain ⟨τ, o1, v1, r1⟩ := c55 (d := d + 39) (k := a4) (by omega) hy hC hD' eDc hD hSS eJc hJ eMc hM
      have e84 : AI τ 84 (s * 41 + y) = nI o := by rw [offA o1 84 rfl]; exact eo84
      have hIt := Inv_off o1 hI0
      have hCW : CW τ LS nM nS (dcN σ y a4 nD) (fun m => sumN (dcN σ y a4 nD m) 5 < numV (clL LS 5 0 y) 0) (fun m => (inR σ m y nJ).2) := ⟨v1, LC_off o1 hC, (offF o1 0 1 rfl).trans eMc, (offF o1 31 0 rfl).trans eSc, hM, hS4, hdb⟩
      have k1 := c66 (d := d + 39) (c := c) (s := nI s) (y := nI y) (k := a4) (σ := τ) (by omega) (by omega) hIt.2.2.2.2.2.1 hIt.2.2.2.2.2.2.1 ((offF o1 85 63 rfl).trans eQ) ((offF o1 60 1 rfl).trans eQc) hQ ((offF o1 85 75 rfl).trans eO) ((offF o1 71 0 rfl).trans eOc) hO
      rw [ntV_off o1, ofV_off o1] at k1
      refine ⟨τ, o1, ?_⟩
      simp (disch := first | omega | assumption | exact FI_q | exact nI_10 | exact nI_20 | exact nI_30 | (simp (disch := omega) only [AI_q, AI_n, AL_q, AL_n, FI_q, FI_n, AI_ff, AI_fl, AI_la, AI_tt, FI_aa, FI_la, FI_fl, FI_tt, AL_ff, AL_aa, AL_fw, AL_tt, eW, eWc, eM, eMc, eB, eBc, eP, ePc, eD, eDc, eS, eSc, eJ, eJc, eL, eLc, eQ, eQc, eO, eOc, eA, eAc]; done) | fail) only [s25_0, s25_5, s25_9, s25_13, s25_20, s25_27, s25_60, s25_69, s25_70, s25_77, s25_78, s25_87, s25_88, s25_97, s25_98, s25_105, s242_0, s242_11, s242_19, s242_26, s242_36, s242_48, s242_84, s242_93, s242_94, s242_103, s242_104, s242_113, s242_114, s242_123, s242_124, s242_133, c46_t, c46_f, c42_t, c42_f, c43_t, c43_f, c44_t, c44_f, c45_t, c45_f, c166_T, c166_F, c165_t, c165_f, c169_t, c169_f, c170_t, c170_f, c209_t, c209_f, c244_t, c244_f, H51_t, H51_f, H52_t, H52_f, H241_t, H241_f, HXnS, HYnS, HNnS, HOnS, aft_v, aft_n, aft_x2, z00, z10, oTr, oFa, cond_true, cond_false, nI_add, nI_mul, nI_s1, nI_clamp, inbT, oltT, oltF, oleT, oleF, oeqT, oeqF, is01_0, is01_1, AI_q, AI_n, AL_q, AL_n, FI_q, FI_n, AI_ff, AI_fl, AI_la, AI_tt, FI_aa, FI_la, FI_fl, FI_tt, AL_ff, AL_aa, AL_fw, AL_tt, eW, eWc, eM, eMc, eB, eBc, eP, ePc, eD, eDc, eS, eSc, eJ, eJc, eL, eLc, eQ, eQc, eO, eOc, eA, eAc, r1, t25_2, k1]
    · skip
      have hM0 : LM LS none σ1 := LM_off ho hM'
      have hM1 : LM LS none (wFI (wAL σ1 145 0 z) 85 0 (nI 0)) := hM0
      have hD1 : ID (wFI (wAL σ1 145 0 z) 85 0 (nI 0)) := (ID_off ho hD' : ID σ1)
      have hN1 : FI (wFI (wAL σ1 145 0 z) 85 0 (nI 0)) 85 39 = nI nD := (offF ho 85 39 rfl).trans eD
      have hT1 : FI (wFI (wAL σ1 145 0 z) 85 0 (nI 0)) 85 45 = -1 := (offF ho 85 45 rfl).trans eTr
      have eDD : dcN (wFI (wAL σ1 145 0 z) 85 0 (nI 0)) y a4 nD = dcN σ y a4 nD := dcN_z.trans (dcN_off' ho)
      have hX := DM_no (y := y) (k := a4) hD1 hN1 hD hT1
      rw [eDD] at hX
      have hI1 : Inv (wFI (wAL σ1 145 0 z) 85 0 (nI 0)) := Inv_tn (Inv_o (Inv_off ho hI0))
      have hSz : IS2 (wFI (wAL σ1 145 0 z) 85 0 (nI 0)) := hI1.2.2.2.2.1.2.1
      have eIn : (fun m => (inR (wFI (wAL σ1 145 0 z) 85 0 (nI 0)) m y nJ).2) = (fun m => (inR σ m y nJ).2) := by
        funext m
        rw [inR_c (σ := σ1) (τ := wFI (wAL σ1 145 0 z) 85 0 (nI 0)) rfl rfl rfl, inR_off ho]
      have hMW := MW_of (σ := wFI (wAL σ1 145 0 z) 85 0 (nI 0)) (nJ := nJ) (M := nM) (nS := nS) hM1 hX hSz ((offF ho 85 53 rfl).trans eJ) hJ ((offF ho 85 29 rfl).trans eM) hM ((offF ho 85 52 rfl).trans eS) hS4 hy
      rw [eIn] at hMW
      have k1 := c251 (σ := wFI (wAL σ1 145 0 z) 85 0 (nI 0)) (d := e + 39) (c := nI c) (s := nI s) (y := nI y) (k := a4) (by omega) hI1.2.2.2.2.2.1 (ifm_of hI1.2.2.2.2.2.2.1 ((offF ho 85 75 rfl).trans eO) hO) ((offF ho 85 63 rfl).trans eQ) hQ ((offF ho 85 75 rfl).trans eO) hO
      rw [ntV_c (σ := σ1) (τ := wFI (wAL σ1 145 0 z) 85 0 (nI 0)) rfl rfl rfl rfl rfl rfl rfl, ofV_c (σ := σ1) (τ := wFI (wAL σ1 145 0 z) 85 0 (nI 0)) rfl rfl rfl rfl rfl rfl, ntV_off ho, ofV_off ho] at k1
      refine ⟨_, off_r, ?_⟩
      have eW1 := (offF ho 85 1 rfl).trans eW
      have eM1 := (offF ho 85 29 rfl).trans eM
      have eB1 := (offF ho 85 2 rfl).trans eB
      have eP1 := (offF ho 85 30 rfl).trans eP
      have eD1 := (offF ho 85 39 rfl).trans eD
      have eS1 := (offF ho 85 52 rfl).trans eS
      have eJ1 := (offF ho 85 53 rfl).trans eJ
      have eL1 := (offF ho 85 62 rfl).trans eL
      have eQ1 := (offF ho 85 63 rfl).trans eQ
      have eO1 := (offF ho 85 75 rfl).trans eO
      have eA1 := (offF ho 85 85 rfl).trans eA
      simp (disch := first | omega | assumption | exact FI_q | exact nI_10 | exact nI_20 | exact nI_30 | (simp (disch := omega) only [AI_q, AI_n, AL_q, AL_n, FI_q, FI_n, AI_ff, AI_fl, AI_la, AI_tt, FI_aa, FI_la, FI_fl, FI_tt, AL_ff, AL_aa, AL_fw, AL_tt, eW1, eM1, eB1, eP1, eD1, eS1, eJ1, eL1, eQ1, eO1, eA1]; done) | fail) only [s25_0, s25_5, s25_9, s25_13, s25_20, s25_27, s25_60, s25_69, s25_70, s25_77, s25_78, s25_87, s25_88, s25_97, s25_98, s25_105, s242_0, s242_11, s242_19, s242_26, s242_36, s242_48, s242_84, s242_93, s242_94, s242_103, s242_104, s242_113, s242_114, s242_123, s242_124, s242_133, c46_t, c46_f, c42_t, c42_f, c43_t, c43_f, c44_t, c44_f, c45_t, c45_f, c166_T, c166_F, c165_t, c165_f, c169_t, c169_f, c170_t, c170_f, c209_t, c209_f, c244_t, c244_f, H51_t, H51_f, H52_t, H52_f, H241_t, H241_f, HXnS, HYnS, HNnS, HOnS, aft_v, aft_n, aft_x2, z00, z10, oTr, oFa, cond_true, cond_false, nI_add, nI_mul, nI_s1, nI_clamp, inbT, oltT, oltF, oleT, oleF, oeqT, oeqF, is01_0, is01_1, AI_q, AI_n, AL_q, AL_n, FI_q, FI_n, AI_ff, AI_fl, AI_la, AI_tt, FI_aa, FI_la, FI_fl, FI_tt, AL_ff, AL_aa, AL_fw, AL_tt, eW, eWc, eM, eMc, eB, eBc, eP, ePc, eD, eDc, eS, eSc, eJ, eJc, eL, eLc, eQ, eQc, eO, eOc, eA, eAc, eW1, eM1, eB1, eP1, eD1, eS1, eJ1, eL1, eQ1, eO1, eA1, t242_2, k1]
  | 3, _ =>
    refine opQ_of hI0 (.long (shV (bdV (fun m => (inR σ m y nJ).2) (fun m => b1 (sumN (dcN σ y a4 nD m) 5 < numV (clL LS 5 0 y) 0)) (dcN σ y a4 nD) LS y nM nS o c s) (lN (ntV σ (nI c) (nI s) (nI y) a4 nQ + ofV σ (nI c) (nI s) (nI y) a4 nO)))) ⟨_, rfl⟩ (fun d => ?_) (fun σ1 z e ho => ?_)
    · skip
      obtain ⟨τ, o1, v1, r1⟩ := c55 (d := d + 39) (k := a4) (by omega) hy hC hD' eDc hD hSS eJc hJ eMc hM
      have e84 : AI τ 84 (s * 41 + y) = nI o := by rw [offA o1 84 rfl]; exact eo84
      have hIt := Inv_off o1 hI0
      have hCW : CW τ LS nM nS (dcN σ y a4 nD) (fun m => sumN (dcN σ y a4 nD m) 5 < numV (clL LS 5 0 y) 0) (fun m => (inR σ m y nJ).2) := ⟨v1, LC_off o1 hC, (offF o1 0 1 rfl).trans eMc, (offF o1 31 0 rfl).trans eSc, hM, hS4, hdb⟩
      obtain ⟨τ', p1, k1⟩ := c67 (d := d + 39) (c := c) (k := a4) (by omega) hy hCW (by omega) hc e84 ho2 hIt.2.2.2.2.2.1 hIt.2.2.2.2.2.2.1 ((offF o1 85 63 rfl).trans eQ) ((offF o1 60 1 rfl).trans eQc) hQ ((offF o1 85 75 rfl).trans eO) ((offF o1 71 0 rfl).trans eOc) hO
      rw [ntV_off o1, ofV_off o1] at k1
      refine ⟨τ', off_t o1 (pt_C p1), ?_⟩
      simp (disch := first | omega | assumption | exact FI_q | exact nI_10 | exact nI_20 | exact nI_30 | (simp (disch := omega) only [AI_q, AI_n, AL_q, AL_n, FI_q, FI_n, AI_ff, AI_fl, AI_la, AI_tt, FI_aa, FI_la, FI_fl, FI_tt, AL_ff, AL_aa, AL_fw, AL_tt, eW, eWc, eM, eMc, eB, eBc, eP, ePc, eD, eDc, eS, eSc, eJ, eJc, eL, eLc, eQ, eQc, eO, eOc, eA, eAc]; done) | fail) only [s25_0, s25_5, s25_9, s25_13, s25_20, s25_27, s25_60, s25_69, s25_70, s25_77, s25_78, s25_87, s25_88, s25_97, s25_98, s25_105, s242_0, s242_11, s242_19, s242_26, s242_36, s242_48, s242_84, s242_93, s242_94, s242_103, s242_104, s242_113, s242_114, s242_123, s242_124, s242_133, c46_t, c46_f, c42_t, c42_f, c43_t, c43_f, c44_t, c44_f, c45_t, c45_f, c166_T, c166_F, c165_t, c165_f, c169_t, c169_f, c170_t, c170_f, c209_t, c209_f, c244_t, c244_f, H51_t, H51_f, H52_t, H52_f, H241_t, H241_f, HXnS, HYnS, HNnS, HOnS, aft_v, aft_n, aft_x2, z00, z10, oTr, oFa, cond_true, cond_false, nI_add, nI_mul, nI_s1, nI_clamp, inbT, oltT, oltF, oleT, oleF, oeqT, oeqF, is01_0, is01_1, AI_q, AI_n, AL_q, AL_n, FI_q, FI_n, AI_ff, AI_fl, AI_la, AI_tt, FI_aa, FI_la, FI_fl, FI_tt, AL_ff, AL_aa, AL_fw, AL_tt, eW, eWc, eM, eMc, eB, eBc, eP, ePc, eD, eDc, eS, eSc, eJ, eJc, eL, eLc, eQ, eQc, eO, eOc, eA, eAc, r1, t25_3, k1]
    · skip
      have hM0 : LM LS none σ1 := LM_off ho hM'
      have hM1 : LM LS none (wFI (wAL σ1 145 0 z) 85 0 (nI 0)) := hM0
      have hD1 : ID (wFI (wAL σ1 145 0 z) 85 0 (nI 0)) := (ID_off ho hD' : ID σ1)
      have hN1 : FI (wFI (wAL σ1 145 0 z) 85 0 (nI 0)) 85 39 = nI nD := (offF ho 85 39 rfl).trans eD
      have hT1 : FI (wFI (wAL σ1 145 0 z) 85 0 (nI 0)) 85 45 = -1 := (offF ho 85 45 rfl).trans eTr
      have eDD : dcN (wFI (wAL σ1 145 0 z) 85 0 (nI 0)) y a4 nD = dcN σ y a4 nD := dcN_z.trans (dcN_off' ho)
      have hX := DM_no (y := y) (k := a4) hD1 hN1 hD hT1
      rw [eDD] at hX
      have hI1 : Inv (wFI (wAL σ1 145 0 z) 85 0 (nI 0)) := Inv_tn (Inv_o (Inv_off ho hI0))
      have hSz : IS2 (wFI (wAL σ1 145 0 z) 85 0 (nI 0)) := hI1.2.2.2.2.1.2.1
      have eIn : (fun m => (inR (wFI (wAL σ1 145 0 z) 85 0 (nI 0)) m y nJ).2) = (fun m => (inR σ m y nJ).2) := by
        funext m
        rw [inR_c (σ := σ1) (τ := wFI (wAL σ1 145 0 z) 85 0 (nI 0)) rfl rfl rfl, inR_off ho]
      have hMW := MW_of (σ := wFI (wAL σ1 145 0 z) 85 0 (nI 0)) (nJ := nJ) (M := nM) (nS := nS) hM1 hX hSz ((offF ho 85 53 rfl).trans eJ) hJ ((offF ho 85 29 rfl).trans eM) hM ((offF ho 85 52 rfl).trans eS) hS4 hy
      rw [eIn] at hMW
      have e117 : AI (wFI (wAL σ1 145 0 z) 85 0 (nI 0)) 117 (41 * s + y) = nI o := by
        show AI σ1 117 (41 * s + y) = nI o
        rw [offA ho 117 rfl, ← e41]; exact eo
      obtain ⟨τ', p1, k1⟩ := c240 (d := e + 39) (c := c) (by omega) hy hMW (by omega) hc e117 ho2 hI1.2.2.2.2.2.1 (ifm_of hI1.2.2.2.2.2.2.1 ((offF ho 85 75 rfl).trans eO) hO) ((offF ho 85 63 rfl).trans eQ) hQ ((offF ho 85 75 rfl).trans eO) hO
      rw [ntV_c (σ := σ1) (τ := wFI (wAL σ1 145 0 z) 85 0 (nI 0)) rfl rfl rfl rfl rfl rfl rfl, ofV_c (σ := σ1) (τ := wFI (wAL σ1 145 0 z) 85 0 (nI 0)) rfl rfl rfl rfl rfl rfl, ntV_off ho, ofV_off ho] at k1
      refine ⟨τ', pt_M p1, ?_⟩
      have eW1 := (offF ho 85 1 rfl).trans eW
      have eM1 := (offF ho 85 29 rfl).trans eM
      have eB1 := (offF ho 85 2 rfl).trans eB
      have eP1 := (offF ho 85 30 rfl).trans eP
      have eD1 := (offF ho 85 39 rfl).trans eD
      have eS1 := (offF ho 85 52 rfl).trans eS
      have eJ1 := (offF ho 85 53 rfl).trans eJ
      have eL1 := (offF ho 85 62 rfl).trans eL
      have eQ1 := (offF ho 85 63 rfl).trans eQ
      have eO1 := (offF ho 85 75 rfl).trans eO
      have eA1 := (offF ho 85 85 rfl).trans eA
      simp (disch := first | omega | assumption | exact FI_q | exact nI_10 | exact nI_20 | exact nI_30 | (simp (disch := omega) only [AI_q, AI_n, AL_q, AL_n, FI_q, FI_n, AI_ff, AI_fl, AI_la, AI_tt, FI_aa, FI_la, FI_fl, FI_tt, AL_ff, AL_aa, AL_fw, AL_tt, eW1, eM1, eB1, eP1, eD1, eS1, eJ1, eL1, eQ1, eO1, eA1]; done) | fail) only [s25_0, s25_5, s25_9, s25_13, s25_20, s25_27, s25_60, s25_69, s25_70, s25_77, s25_78, s25_87, s25_88, s25_97, s25_98, s25_105, s242_0, s242_11, s242_19, s242_26, s242_36, s242_48, s242_84, s242_93, s242_94, s242_103, s242_104, s242_113, s242_114, s242_123, s242_124, s242_133, c46_t, c46_f, c42_t, c42_f, c43_t, c43_f, c44_t, c44_f, c45_t, c45_f, c166_T, c166_F, c165_t, c165_f, c169_t, c169_f, c170_t, c170_f, c209_t, c209_f, c244_t, c244_f, H51_t, H51_f, H52_t, H52_f, H241_t, H241_f, HXnS, HYnS, HNnS, HOnS, aft_v, aft_n, aft_x2, z00, z10, oTr, oFa, cond_true, cond_false, nI_add, nI_mul, nI_s1, nI_clamp, inbT, oltT, oltF, oleT, oleF, oeqT, oeqF, is01_0, is01_1, AI_q, AI_n, AL_q, AL_n, FI_q, FI_n, AI_ff, AI_fl, AI_la, AI_tt, FI_aa, FI_la, FI_fl, FI_tt, AL_ff, AL_aa, AL_fw, AL_tt, eW, eWc, eM, eMc, eB, eBc, eP, ePc, eD, eDc, eS, eSc, eJ, eJc, eL, eLc, eQ, eQc, eO, eOc, eA, eAc, eW1, eM1, eB1, eP1, eD1, eS1, eJ1, eL1, eQ1, eO1, eA1, t242_3, k1]
  | 4, _ =>
    refine opQ_of hI0 (.long (orV (fun m => (inR σ m y nJ).2) (fun m => b1 (sumN (dcN σ y a4 nD m) 5 < numV (clL LS 5 0 y) 0)) (dcN σ y a4 nD) LS y nM nS o c s)) ⟨_, rfl⟩ (fun d => ?_) (fun σ1 z e ho => ?_)
    · skip
      obtain ⟨τ, o1, v1, r1⟩ := c55 (d := d + 39) (k := a4) (by omega) hy hC hD' eDc hD hSS eJc hJ eMc hM
      have e84 : AI τ 84 (s * 41 + y) = nI o := by rw [offA o1 84 rfl]; exact eo84
      have hIt := Inv_off o1 hI0
      have hCW : CW τ LS nM nS (dcN σ y a4 nD) (fun m => sumN (dcN σ y a4 nD m) 5 < numV (clL LS 5 0 y) 0) (fun m => (inR σ m y nJ).2) := ⟨v1, LC_off o1 hC, (offF o1 0 1 rfl).trans eMc, (offF o1 31 0 rfl).trans eSc, hM, hS4, hdb⟩
      obtain ⟨τ', p1, k1⟩ := c64 (d := d + 39) (c := c) (by omega) hy hCW (by omega) hc e84 ho2
      refine ⟨τ', off_t o1 (pt_C p1), ?_⟩
      simp (disch := first | omega | assumption | exact FI_q | exact nI_10 | exact nI_20 | exact nI_30 | (simp (disch := omega) only [AI_q, AI_n, AL_q, AL_n, FI_q, FI_n, AI_ff, AI_fl, AI_la, AI_tt, FI_aa, FI_la, FI_fl, FI_tt, AL_ff, AL_aa, AL_fw, AL_tt, eW, eWc, eM, eMc, eB, eBc, eP, ePc, eD, eDc, eS, eSc, eJ, eJc, eL, eLc, eQ, eQc, eO, eOc, eA, eAc]; done) | fail) only [s25_0, s25_5, s25_9, s25_13, s25_20, s25_27, s25_60, s25_69, s25_70, s25_77, s25_78, s25_87, s25_88, s25_97, s25_98, s25_105, s242_0, s242_11, s242_19, s242_26, s242_36, s242_48, s242_84, s242_93, s242_94, s242_103, s242_104, s242_113, s242_114, s242_123, s242_124, s242_133, c46_t, c46_f, c42_t, c42_f, c43_t, c43_f, c44_t, c44_f, c45_t, c45_f, c166_T, c166_F, c165_t, c165_f, c169_t, c169_f, c170_t, c170_f, c209_t, c209_f, c244_t, c244_f, H51_t, H51_f, H52_t, H52_f, H241_t, H241_f, HXnS, HYnS, HNnS, HOnS, aft_v, aft_n, aft_x2, z00, z10, oTr, oFa, cond_true, cond_false, nI_add, nI_mul, nI_s1, nI_clamp, inbT, oltT, oltF, oleT, oleF, oeqT, oeqF, is01_0, is01_1, AI_q, AI_n, AL_q, AL_n, FI_q, FI_n, AI_ff, AI_fl, AI_la, AI_tt, FI_aa, FI_la, FI_fl, FI_tt, AL_ff, AL_aa, AL_fw, AL_tt, eW, eWc, eM, eMc, eB, eBc, eP, ePc, eD, eDc, eS, eSc, eJ, eJc, eL, eLc, eQ, eQc, eO, eOc, eA, eAc, r1, t25_4, k1]
    · skip
      have hM0 : LM LS none σ1 := LM_off ho hM'
      have hM1 : LM LS none (wFI (wAL σ1 145 0 z) 85 0 (nI 0)) := hM0
      have hD1 : ID (wFI (wAL σ1 145 0 z) 85 0 (nI 0)) := (ID_off ho hD' : ID σ1)
      have hN1 : FI (wFI (wAL σ1 145 0 z) 85 0 (nI 0)) 85 39 = nI nD := (offF ho 85 39 rfl).trans eD
      have hT1 : FI (wFI (wAL σ1 145 0 z) 85 0 (nI 0)) 85 45 = -1 := (offF ho 85 45 rfl).trans eTr
      have eDD : dcN (wFI (wAL σ1 145 0 z) 85 0 (nI 0)) y a4 nD = dcN σ y a4 nD := dcN_z.trans (dcN_off' ho)
      have hX := DM_no (y := y) (k := a4) hD1 hN1 hD hT1
      rw [eDD] at hX
      have hI1 : Inv (wFI (wAL σ1 145 0 z) 85 0 (nI 0)) := Inv_tn (Inv_o (Inv_off ho hI0))
      have hSz : IS2 (wFI (wAL σ1 145 0 z) 85 0 (nI 0)) := hI1.2.2.2.2.1.2.1
      have eIn : (fun m => (inR (wFI (wAL σ1 145 0 z) 85 0 (nI 0)) m y nJ).2) = (fun m => (inR σ m y nJ).2) := by
        funext m
        rw [inR_c (σ := σ1) (τ := wFI (wAL σ1 145 0 z) 85 0 (nI 0)) rfl rfl rfl, inR_off ho]
      have hMW := MW_of (σ := wFI (wAL σ1 145 0 z) 85 0 (nI 0)) (nJ := nJ) (M := nM) (nS := nS) hM1 hX hSz ((offF ho 85 53 rfl).trans eJ) hJ ((offF ho 85 29 rfl).trans eM) hM ((offF ho 85 52 rfl).trans eS) hS4 hy
      rw [eIn] at hMW
      have e117 : AI (wFI (wAL σ1 145 0 z) 85 0 (nI 0)) 117 (41 * s + y) = nI o := by
        show AI σ1 117 (41 * s + y) = nI o
        rw [offA ho 117 rfl, ← e41]; exact eo
      obtain ⟨τ', p1, k1⟩ := c238 (d := e + 39) (c := c) (by omega) hy hMW (by omega) hc e117 ho2
      refine ⟨τ', pt_M p1, ?_⟩
      have eW1 := (offF ho 85 1 rfl).trans eW
      have eM1 := (offF ho 85 29 rfl).trans eM
      have eB1 := (offF ho 85 2 rfl).trans eB
      have eP1 := (offF ho 85 30 rfl).trans eP
      have eD1 := (offF ho 85 39 rfl).trans eD
      have eS1 := (offF ho 85 52 rfl).trans eS
      have eJ1 := (offF ho 85 53 rfl).trans eJ
      have eL1 := (offF ho 85 62 rfl).trans eL
      have eQ1 := (offF ho 85 63 rfl).trans eQ
      have eO1 := (offF ho 85 75 rfl).trans eO
      have eA1 := (offF ho 85 85 rfl).trans eA
      simp (disch := first | omega | assumption | exact FI_q | exact nI_10 | exact nI_20 | exact nI_30 | (simp (disch := omega) only [AI_q, AI_n, AL_q, AL_n, FI_q, FI_n, AI_ff, AI_fl, AI_la, AI_tt, FI_aa, FI_la, FI_fl, FI_tt, AL_ff, AL_aa, AL_fw, AL_tt, eW1, eM1, eB1, eP1, eD1, eS1, eJ1, eL1, eQ1, eO1, eA1]; done) | fail) only [s25_0, s25_5, s25_9, s25_13, s25_20, s25_27, s25_60, s25_69, s25_70, s25_77, s25_78, s25_87, s25_88, s25_97, s25_98, s25_105, s242_0, s242_11, s242_19, s242_26, s242_36, s242_48, s242_84, s242_93, s242_94, s242_103, s242_104, s242_113, s242_114, s242_123, s242_124, s242_133, c46_t, c46_f, c42_t, c42_f, c43_t, c43_f, c44_t, c44_f, c45_t, c45_f, c166_T, c166_F, c165_t, c165_f, c169_t, c169_f, c170_t, c170_f, c209_t, c209_f, c244_t, c244_f, H51_t, H51_f, H52_t, H52_f, H241_t, H241_f, HXnS, HYnS, HNnS, HOnS, aft_v, aft_n, aft_x2, z00, z10, oTr, oFa, cond_true, cond_false, nI_add, nI_mul, nI_s1, nI_clamp, inbT, oltT, oltF, oleT, oleF, oeqT, oeqF, is01_0, is01_1, AI_q, AI_n, AL_q, AL_n, FI_q, FI_n, AI_ff, AI_fl, AI_la, AI_tt, FI_aa, FI_la, FI_fl, FI_tt, AL_ff, AL_aa, AL_fw, AL_tt, eW, eWc, eM, eMc, eB, eBc, eP, ePc, eD, eDc, eS, eSc, eJ, eJc, eL, eLc, eQ, eQc, eO, eOc, eA, eAc, eW1, eM1, eB1, eP1, eD1, eS1, eJ1, eL1, eQ1, eO1, eA1, t242_4, k1]
  | i + 5, h => exact absurd h (by omega)
