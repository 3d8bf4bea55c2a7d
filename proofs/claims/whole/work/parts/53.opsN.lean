/-! printed by wip/whole/ops.py: the ops that write no more than they say -/
set_option maxHeartbeats 8000000 in
theorem op_pay {σ : PS} (hI : Inv σ) (a1 a2 a3 : Int32) : Op (fun d σ => Run false d 31 0 [some (.ref 0), some (.int a1), some (.int a2), some (.int a3), none, none, none] [] σ) (fun d σ => Run false d 252 0 [some (.ref 85), some (.int a1), some (.int a2), some (.int a3), none, none, none, none] [] σ) σ isL (fun E => if E = 3 then 1 else if E = 1 then 2 else 0) := by
  have hI0 := hI
  obtain ⟨⟨⟨nW, hW, eW, eWc⟩, ⟨nM, hM, eM, eMc⟩, eTr, eIs⟩, ⟨⟨nB, hB, eB, eBc, hBy⟩, eFa, eC10⟩, ⟨⟨nP, hP, eP, ePc, hTr⟩, hPk, hSo, hGr, hCo⟩, ⟨nD, hD, eD, eDc, hDe⟩, ⟨⟨nS, hS, eS, eSc⟩, ⟨nJ, hJ, eJ, eJc, hJo⟩, hPa⟩, ⟨nL, nQ, hL, hQ, eL, eLc, eQ, eQc, hLo, hNo, eFg⟩, ⟨nO, hO, eO, eOc, hOf, hOz⟩, ⟨nA, hA, eA, eAc, hSa⟩, ⟨hBi, hOr⟩, LS, hIL⟩ := hI
  have H51_t := fun (d : Nat) (σ : PS) (a : Int32) => @c51_t d σ a nS
  have H51_f := fun (d : Nat) (σ : PS) (a : Int32) => @c51_f d σ a nS
  have H52_t := fun (d : Nat) (σ : PS) (a : Int32) => @c52_t d σ a nS
  have H52_f := fun (d : Nat) (σ : PS) (a : Int32) => @c52_f d σ a nS
  have H241_t := fun (d : Nat) (σ : PS) (a c : Int32) => @c241_t d σ a nS c
  have H241_f := fun (d : Nat) (σ : PS) (a c : Int32) => @c241_f d σ a nS c
  have HXnS := fun (d : Nat) (σ : PS) (a : Int32) => @c166_X d σ a nS
  have HYnS := fun (d : Nat) (σ : PS) (a : Int32) => @c166_Y d σ a nS
  have HNnS := fun (d : Nat) (σ : PS) (a : Int32) => @c166_N d σ a nS
  have HOnS := fun (d : Nat) (σ : PS) (a : Int32) => @c166_M d σ a nS
  by_cases h1 : IN nS a3
  case neg =>
    refine opE_of hI0 3 1 (.long (lN 0)) ⟨_, rfl⟩ (by decide) rfl (by decide) (fun d => ?_) (fun d => ?_)
    · simp (disch := first | omega | assumption | exact FI_q | exact nI_10 | exact nI_20 | exact nI_30 | (simp (disch := omega) only [AI_q, AI_n, AL_q, AL_n, FI_q, FI_n, AI_ff, AI_fl, AI_la, AI_tt, FI_aa, FI_la, FI_fl, FI_tt, AL_ff, AL_aa, AL_fw, AL_tt, eW, eWc, eM, eMc, eB, eBc, eP, ePc, eD, eDc, eS, eSc, eJ, eJc, eL, eLc, eQ, eQc, eO, eOc, eA, eAc]; done) | fail) only [s31_0, s31_5, s31_11, s31_15, s252_0, s252_17, s252_21, s252_31, s252_38, s252_50, c46_t, c46_f, c42_t, c42_f, c43_t, c43_f, c44_t, c44_f, c45_t, c45_f, c166_T, c166_F, c165_t, c165_f, c169_t, c169_f, c170_t, c170_f, c209_t, c209_f, c244_t, c244_f, H51_t, H51_f, H52_t, H52_f, H241_t, H241_f, HXnS, HYnS, HNnS, HOnS, aft_v, aft_n, aft_x2, z00, z10, oTr, oFa, cond_true, cond_false, nI_add, nI_mul, nI_s1, nI_clamp, inbT, oltT, oltF, oleT, oleF, oeqT, oeqF, is01_0, is01_1, AI_q, AI_n, AL_q, AL_n, FI_q, FI_n, AI_ff, AI_fl, AI_la, AI_tt, FI_aa, FI_la, FI_fl, FI_tt, AL_ff, AL_aa, AL_fw, AL_tt, eW, eWc, eM, eMc, eB, eBc, eP, ePc, eD, eDc, eS, eSc, eJ, eJc, eL, eLc, eQ, eQc, eO, eOc, eA, eAc]
    · simp (disch := first | omega | assumption | exact FI_q | exact nI_10 | exact nI_20 | exact nI_30 | (simp (disch := omega) only [AI_q, AI_n, AL_q, AL_n, FI_q, FI_n, AI_ff, AI_fl, AI_la, AI_tt, FI_aa, FI_la, FI_fl, FI_tt, AL_ff, AL_aa, AL_fw, AL_tt, eW, eWc, eM, eMc, eB, eBc, eP, ePc, eD, eDc, eS, eSc, eJ, eJc, eL, eLc, eQ, eQc, eO, eOc, eA, eAc]; done) | fail) only [s31_0, s31_5, s31_11, s31_15, s252_0, s252_17, s252_21, s252_31, s252_38, s252_50, c46_t, c46_f, c42_t, c42_f, c43_t, c43_f, c44_t, c44_f, c45_t, c45_f, c166_T, c166_F, c165_t, c165_f, c169_t, c169_f, c170_t, c170_f, c209_t, c209_f, c244_t, c244_f, H51_t, H51_f, H52_t, H52_f, H241_t, H241_f, HXnS, HYnS, HNnS, HOnS, aft_v, aft_n, aft_x2, z00, z10, oTr, oFa, cond_true, cond_false, nI_add, nI_mul, nI_s1, nI_clamp, inbT, oltT, oltF, oleT, oleF, oeqT, oeqF, is01_0, is01_1, AI_q, AI_n, AL_q, AL_n, FI_q, FI_n, AI_ff, AI_fl, AI_la, AI_tt, FI_aa, FI_la, FI_fl, FI_tt, AL_ff, AL_aa, AL_fw, AL_tt, eW, eWc, eM, eMc, eB, eBc, eP, ePc, eD, eDc, eS, eSc, eJ, eJc, eL, eLc, eQ, eQc, eO, eOc, eA, eAc]
  by_cases h2 : IR 0 5 a1
  case neg =>
    refine opE_of hI0 1 2 (.long (lN 0)) ⟨_, rfl⟩ (by decide) rfl (by decide) (fun d => ?_) (fun d => ?_)
    · simp (disch := first | omega | assumption | exact FI_q | exact nI_10 | exact nI_20 | exact nI_30 | (simp (disch := omega) only [AI_q, AI_n, AL_q, AL_n, FI_q, FI_n, AI_ff, AI_fl, AI_la, AI_tt, FI_aa, FI_la, FI_fl, FI_tt, AL_ff, AL_aa, AL_fw, AL_tt, eW, eWc, eM, eMc, eB, eBc, eP, ePc, eD, eDc, eS, eSc, eJ, eJc, eL, eLc, eQ, eQc, eO, eOc, eA, eAc]; done) | fail) only [s31_0, s31_5, s31_11, s31_15, s252_0, s252_17, s252_21, s252_31, s252_38, s252_50, c46_t, c46_f, c42_t, c42_f, c43_t, c43_f, c44_t, c44_f, c45_t, c45_f, c166_T, c166_F, c165_t, c165_f, c169_t, c169_f, c170_t, c170_f, c209_t, c209_f, c244_t, c244_f, H51_t, H51_f, H52_t, H52_f, H241_t, H241_f, HXnS, HYnS, HNnS, HOnS, aft_v, aft_n, aft_x2, z00, z10, oTr, oFa, cond_true, cond_false, nI_add, nI_mul, nI_s1, nI_clamp, inbT, oltT, oltF, oleT, oleF, oeqT, oeqF, is01_0, is01_1, AI_q, AI_n, AL_q, AL_n, FI_q, FI_n, AI_ff, AI_fl, AI_la, AI_tt, FI_aa, FI_la, FI_fl, FI_tt, AL_ff, AL_aa, AL_fw, AL_tt, eW, eWc, eM, eMc, eB, eBc, eP, ePc, eD, eDc, eS, eSc, eJ, eJc, eL, eLc, eQ, eQc, eO, eOc, eA, eAc]
    · simp (disch := first | omega | assumption | exact FI_q | exact nI_10 | exact nI_20 | exact nI_30 | (simp (disch := omega) only [AI_q, AI_n, AL_q, AL_n, FI_q, FI_n, AI_ff, AI_fl, AI_la, AI_tt, FI_aa, FI_la, FI_fl, FI_tt, AL_ff, AL_aa, AL_fw, AL_tt, eW, eWc, eM, eMc, eB, eBc, eP, ePc, eD, eDc, eS, eSc, eJ, eJc, eL, eLc, eQ, eQc, eO, eOc, eA, eAc]; done) | fail) only [s31_0, s31_5, s31_11, s31_15, s252_0, s252_17, s252_21, s252_31, s252_38, s252_50, c46_t, c46_f, c42_t, c42_f, c43_t, c43_f, c44_t, c44_f, c45_t, c45_f, c166_T, c166_F, c165_t, c165_f, c169_t, c169_f, c170_t, c170_f, c209_t, c209_f, c244_t, c244_f, H51_t, H51_f, H52_t, H52_f, H241_t, H241_f, HXnS, HYnS, HNnS, HOnS, aft_v, aft_n, aft_x2, z00, z10, oTr, oFa, cond_true, cond_false, nI_add, nI_mul, nI_s1, nI_clamp, inbT, oltT, oltF, oleT, oleF, oeqT, oeqF, is01_0, is01_1, AI_q, AI_n, AL_q, AL_n, FI_q, FI_n, AI_ff, AI_fl, AI_la, AI_tt, FI_aa, FI_la, FI_fl, FI_tt, AL_ff, AL_aa, AL_fw, AL_tt, eW, eWc, eM, eMc, eB, eBc, eP, ePc, eD, eDc, eS, eSc, eJ, eJc, eL, eLc, eQ, eQc, eO, eOc, eA, eAc]
  by_cases h3 : IR 0 40 a2
  case neg =>
    refine opE_of hI0 1 2 (.long (lN 0)) ⟨_, rfl⟩ (by decide) rfl (by decide) (fun d => ?_) (fun d => ?_)
    · simp (disch := first | omega | assumption | exact FI_q | exact nI_10 | exact nI_20 | exact nI_30 | (simp (disch := omega) only [AI_q, AI_n, AL_q, AL_n, FI_q, FI_n, AI_ff, AI_fl, AI_la, AI_tt, FI_aa, FI_la, FI_fl, FI_tt, AL_ff, AL_aa, AL_fw, AL_tt, eW, eWc, eM, eMc, eB, eBc, eP, ePc, eD, eDc, eS, eSc, eJ, eJc, eL, eLc, eQ, eQc, eO, eOc, eA, eAc]; done) | fail) only [s31_0, s31_5, s31_11, s31_15, s252_0, s252_17, s252_21, s252_31, s252_38, s252_50, c46_t, c46_f, c42_t, c42_f, c43_t, c43_f, c44_t, c44_f, c45_t, c45_f, c166_T, c166_F, c165_t, c165_f, c169_t, c169_f, c170_t, c170_f, c209_t, c209_f, c244_t, c244_f, H51_t, H51_f, H52_t, H52_f, H241_t, H241_f, HXnS, HYnS, HNnS, HOnS, aft_v, aft_n, aft_x2, z00, z10, oTr, oFa, cond_true, cond_false, nI_add, nI_mul, nI_s1, nI_clamp, inbT, oltT, oltF, oleT, oleF, oeqT, oeqF, is01_0, is01_1, AI_q, AI_n, AL_q, AL_n, FI_q, FI_n, AI_ff, AI_fl, AI_la, AI_tt, FI_aa, FI_la, FI_fl, FI_tt, AL_ff, AL_aa, AL_fw, AL_tt, eW, eWc, eM, eMc, eB, eBc, eP, ePc, eD, eDc, eS, eSc, eJ, eJc, eL, eLc, eQ, eQc, eO, eOc, eA, eAc]
    · simp (disch := first | omega | assumption | exact FI_q | exact nI_10 | exact nI_20 | exact nI_30 | (simp (disch := omega) only [AI_q, AI_n, AL_q, AL_n, FI_q, FI_n, AI_ff, AI_fl, AI_la, AI_tt, FI_aa, FI_la, FI_fl, FI_tt, AL_ff, AL_aa, AL_fw, AL_tt, eW, eWc, eM, eMc, eB, eBc, eP, ePc, eD, eDc, eS, eSc, eJ, eJc, eL, eLc, eQ, eQc, eO, eOc, eA, eAc]; done) | fail) only [s31_0, s31_5, s31_11, s31_15, s252_0, s252_17, s252_21, s252_31, s252_38, s252_50, c46_t, c46_f, c42_t, c42_f, c43_t, c43_f, c44_t, c44_f, c45_t, c45_f, c166_T, c166_F, c165_t, c165_f, c169_t, c169_f, c170_t, c170_f, c209_t, c209_f, c244_t, c244_f, H51_t, H51_f, H52_t, H52_f, H241_t, H241_f, HXnS, HYnS, HNnS, HOnS, aft_v, aft_n, aft_x2, z00, z10, oTr, oFa, cond_true, cond_false, nI_add, nI_mul, nI_s1, nI_clamp, inbT, oltT, oltF, oleT, oleF, oeqT, oeqF, is01_0, is01_1, AI_q, AI_n, AL_q, AL_n, FI_q, FI_n, AI_ff, AI_fl, AI_la, AI_tt, FI_aa, FI_la, FI_fl, FI_tt, AL_ff, AL_aa, AL_fw, AL_tt, eW, eWc, eM, eMc, eB, eBc, eP, ePc, eD, eDc, eS, eSc, eJ, eJc, eL, eLc, eQ, eQc, eO, eOc, eA, eAc]
  obtain ⟨t, -, ht, rfl⟩ := id h2
  obtain ⟨y, -, hy, rfl⟩ := id h3
  have hS4 := hS
  have hC := IL_C hIL
  have hM' := IL_M hIL eIs
  have hPP : IP σ := hI0.2.2.1
  have hD' : ID σ := hI0.2.2.2.1
  have hSS : IS σ := hI0.2.2.2.2.1
  have hMM : IM σ := hI0.2.2.2.2.2.2.2.1
  have hOO : IO_ σ := hI0.2.2.2.2.2.1
  have hFF : IF_ σ := hI0.2.2.2.2.2.2.1
  have hdb : ∀ m s, dcN σ y (nI nW) nD m s ≤ 10000000 := fun m s => (dcN_e hD' eD hD).2
  have hnm : ∀ s, s < 5 → numV (clL LS 3 s y) 0 ≤ 9999 := fun s hs => num_any (k := 3) (d := 0) (atC_ok (clF_C (k := 3) (s := s) (y := y) hC)) (by decide)
  have hpl := pyN_le (σ := σ) (LS := LS) (t := t) (y := y) hOO eL hL hnm
  have pyz : ∀ σ1 z, Off σ σ1 → pyN (wFI (wAL σ1 145 0 z) 85 0 (nI 0)) LS t y nL = pyN σ LS t y nL := fun σ1 z ho => by
    unfold pyN
    refine sumN_c 5 (fun s _ => sumN_c nL (fun l _ => ?_))
    unfold gN
    show (bif obl (AI σ1 122 l = nI t) then (bif obl (AI σ1 123 l = nI y) then (AI σ1 64 (5 * l + s)).toNatClampNeg * _ / 1000 / (1 + (AI σ1 62 l).toNatClampNeg) else 0) else 0) = _
    rw [offA ho 122 rfl, offA ho 123 rfl, offA ho 64 rfl, offA ho 62 rfl]
  rcases id h1 with rfl | ⟨c, hc, rfl⟩
  · refine opQ_of hI0 (.long (lN (pyN σ LS t y nL))) ⟨_, rfl⟩ (fun d => ?_) (fun σ1 z e ho => ?_)
    · have r1 := c31_a (σ := σ) (d := d + 39) (t := t) (a3 := (-1 : Int32)) (by omega) hy hC hOO eL eLc hL
      refine ⟨σ, off_r, ?_⟩
      simp (disch := first | omega | assumption | exact FI_q | exact nI_10 | exact nI_20 | exact nI_30 | (simp (disch := omega) only [AI_q, AI_n, AL_q, AL_n, FI_q, FI_n, AI_ff, AI_fl, AI_la, AI_tt, FI_aa, FI_la, FI_fl, FI_tt, AL_ff, AL_aa, AL_fw, AL_tt, eW, eWc, eM, eMc, eB, eBc, eP, ePc, eD, eDc, eS, eSc, eJ, eJc, eL, eLc, eQ, eQc, eO, eOc, eA, eAc]; done) | fail) only [s31_0, s31_5, s31_11, s31_15, s252_0, s252_17, s252_21, s252_31, s252_38, s252_50, c46_t, c46_f, c42_t, c42_f, c43_t, c43_f, c44_t, c44_f, c45_t, c45_f, c166_T, c166_F, c165_t, c165_f, c169_t, c169_f, c170_t, c170_f, c209_t, c209_f, c244_t, c244_f, H51_t, H51_f, H52_t, H52_f, H241_t, H241_f, HXnS, HYnS, HNnS, HOnS, aft_v, aft_n, aft_x2, z00, z10, oTr, oFa, cond_true, cond_false, nI_add, nI_mul, nI_s1, nI_clamp, inbT, oltT, oltF, oleT, oleF, oeqT, oeqF, is01_0, is01_1, AI_q, AI_n, AL_q, AL_n, FI_q, FI_n, AI_ff, AI_fl, AI_la, AI_tt, FI_aa, FI_la, FI_fl, FI_tt, AL_ff, AL_aa, AL_fw, AL_tt, eW, eWc, eM, eMc, eB, eBc, eP, ePc, eD, eDc, eS, eSc, eJ, eJc, eL, eLc, eQ, eQc, eO, eOc, eA, eAc]
      refine r1.trans ?_
      rw [s31_21, oleT (Nat.le_refl _) (by decide), cond_true, obl_t rfl, cond_true]
    · have hI1 : Inv (wFI (wAL σ1 145 0 z) 85 0 (nI 0)) := Inv_tn (Inv_o (Inv_off ho hI0))
      have hM0 : LM LS none σ1 := LM_off ho hM'
      have hM1 : LM LS none (wFI (wAL σ1 145 0 z) 85 0 (nI 0)) := hM0
      have eW1 := (offF ho 85 1 rfl).trans eW
      have eM1 := (offF ho 85 29 rfl).trans eM
      have eB1 := (offF ho 85 2 rfl).trans eB
      have eP1 := (offF ho 85 30 rfl).trans eP
      have eD1 := (offF ho 85 39 rfl).trans eD
      have eS1 := (offF ho 85 52 rfl).trans eS
      have eJ1 := (offF ho 85 53 rfl).trans eJ
      have eL1 := (offF ho 85 62 rfl).trans eL
      have eQ1 := (offF ho 85 63 rfl).trans eQ
      have eO1 := (offF ho 85 75 rfl).trans eO
      have eA1 := (offF ho 85 85 rfl).trans eA
      obtain ⟨z7, r1⟩ := c252_a (σ := wFI (wAL σ1 145 0 z) 85 0 (nI 0)) (d := e + 39) (t := t) (a3 := (-1 : Int32)) (by omega) hy hM1 hI1.2.2.2.2.2.1 ((offF ho 85 62 rfl).trans eL) hL
      rw [pyz σ1 z ho] at r1
      refine ⟨_, off_r, ?_⟩
      simp (disch := first | omega | assumption | exact FI_q | exact nI_10 | exact nI_20 | exact nI_30 | (simp (disch := omega) only [AI_q, AI_n, AL_q, AL_n, FI_q, FI_n, AI_ff, AI_fl, AI_la, AI_tt, FI_aa, FI_la, FI_fl, FI_tt, AL_ff, AL_aa, AL_fw, AL_tt, eW1, eM1, eB1, eP1, eD1, eS1, eJ1, eL1, eQ1, eO1, eA1]; done) | fail) only [s31_0, s31_5, s31_11, s31_15, s252_0, s252_17, s252_21, s252_31, s252_38, s252_50, c46_t, c46_f, c42_t, c42_f, c43_t, c43_f, c44_t, c44_f, c45_t, c45_f, c166_T, c166_F, c165_t, c165_f, c169_t, c169_f, c170_t, c170_f, c209_t, c209_f, c244_t, c244_f, H51_t, H51_f, H52_t, H52_f, H241_t, H241_f, HXnS, HYnS, HNnS, HOnS, aft_v, aft_n, aft_x2, z00, z10, oTr, oFa, cond_true, cond_false, nI_add, nI_mul, nI_s1, nI_clamp, inbT, oltT, oltF, oleT, oleF, oeqT, oeqF, is01_0, is01_1, AI_q, AI_n, AL_q, AL_n, FI_q, FI_n, AI_ff, AI_fl, AI_la, AI_tt, FI_aa, FI_la, FI_fl, FI_tt, AL_ff, AL_aa, AL_fw, AL_tt, eW, eWc, eM, eMc, eB, eBc, eP, ePc, eD, eDc, eS, eSc, eJ, eJc, eL, eLc, eQ, eQc, eO, eOc, eA, eAc, eW1, eM1, eB1, eP1, eD1, eS1, eJ1, eL1, eQ1, eO1, eA1]
      refine r1.trans ?_
      rw [s252_61, show FI (wFI (wAL σ1 145 0 z) 85 0 (nI 0)) 85 62 = nI nL from (offF ho 85 62 rfl).trans eL, oleT (Nat.le_refl _) (by omega), cond_true, obl_t rfl, cond_true]
  · have m1 : obl (nI c = (-1 : Int32)) = false := obl_f (nI_m1n (by omega))
    refine opQ_of hI0 (.long (prtN (w5N (fun m => (inR σ m y nJ).2) (fun m => b1 (sumN (dcN σ y (nI nW) nD m) 5 < numV (clL LS 5 0 y) 0)) (dcN σ y (nI nW) nD) nM) (pyN σ LS t y nL) nS c)) ⟨_, rfl⟩ (fun d => ?_) (fun σ1 z e ho => ?_)
    · have r2 := c31_a (σ := σ) (d := d + 39) (t := t) (a3 := nI c) (by omega) hy hC hOO eL eLc hL
      obtain ⟨τ, o1, v1, r1⟩ := c55 (d := d + 39) (k := (nI nW)) (by omega) hy hC hD' eDc hD hSS eJc hJ eMc hM
      have hIt := Inv_off o1 hI0
      have hCW : CW τ LS nM nS (dcN σ y (nI nW) nD) (fun m => sumN (dcN σ y (nI nW) nD m) 5 < numV (clL LS 5 0 y) 0) (fun m => (inR σ m y nJ).2) := ⟨v1, LC_off o1 hC, (offF o1 0 1 rfl).trans eMc, (offF o1 31 0 rfl).trans eSc, hM, hS4, hdb⟩
      obtain ⟨τ', p1, k1⟩ := c31_b (σ := τ) (d := d + 39) (c := c) (all := (pyN σ LS t y nL)) (a1 := nI t) (a2 := nI y) (by omega) hCW hc hpl
      refine ⟨τ', off_t o1 (pt_C p1), ?_⟩
      simp (disch := first | omega | assumption | exact FI_q | exact nI_10 | exact nI_20 | exact nI_30 | (simp (disch := omega) only [AI_q, AI_n, AL_q, AL_n, FI_q, FI_n, AI_ff, AI_fl, AI_la, AI_tt, FI_aa, FI_la, FI_fl, FI_tt, AL_ff, AL_aa, AL_fw, AL_tt, eW, eWc, eM, eMc, eB, eBc, eP, ePc, eD, eDc, eS, eSc, eJ, eJc, eL, eLc, eQ, eQc, eO, eOc, eA, eAc]; done) | fail) only [s31_0, s31_5, s31_11, s31_15, s252_0, s252_17, s252_21, s252_31, s252_38, s252_50, c46_t, c46_f, c42_t, c42_f, c43_t, c43_f, c44_t, c44_f, c45_t, c45_f, c166_T, c166_F, c165_t, c165_f, c169_t, c169_f, c170_t, c170_f, c209_t, c209_f, c244_t, c244_f, H51_t, H51_f, H52_t, H52_f, H241_t, H241_f, HXnS, HYnS, HNnS, HOnS, aft_v, aft_n, aft_x2, z00, z10, oTr, oFa, cond_true, cond_false, nI_add, nI_mul, nI_s1, nI_clamp, inbT, oltT, oltF, oleT, oleF, oeqT, oeqF, is01_0, is01_1, AI_q, AI_n, AL_q, AL_n, FI_q, FI_n, AI_ff, AI_fl, AI_la, AI_tt, FI_aa, FI_la, FI_fl, FI_tt, AL_ff, AL_aa, AL_fw, AL_tt, eW, eWc, eM, eMc, eB, eBc, eP, ePc, eD, eDc, eS, eSc, eJ, eJc, eL, eLc, eQ, eQc, eO, eOc, eA, eAc]
      refine r2.trans ?_
      rw [s31_21, oleT (Nat.le_refl _) (by decide), cond_true, m1, cond_false, eWc, r1, aft_n, s31_80]
      exact k1
    · skip
      have hM0 : LM LS none σ1 := LM_off ho hM'
      have hM1 : LM LS none (wFI (wAL σ1 145 0 z) 85 0 (nI 0)) := hM0
      have hD1 : ID (wFI (wAL σ1 145 0 z) 85 0 (nI 0)) := (ID_off ho hD' : ID σ1)
      have hN1 : FI (wFI (wAL σ1 145 0 z) 85 0 (nI 0)) 85 39 = nI nD := (offF ho 85 39 rfl).trans eD
      have hT1 : FI (wFI (wAL σ1 145 0 z) 85 0 (nI 0)) 85 45 = -1 := (offF ho 85 45 rfl).trans eTr
      have eDD : dcN (wFI (wAL σ1 145 0 z) 85 0 (nI 0)) y (nI nW) nD = dcN σ y (nI nW) nD := dcN_z.trans (dcN_off' ho)
      have hX := DM_no (y := y) (k := (nI nW)) hD1 hN1 hD hT1
      rw [eDD] at hX
      have hI1 : Inv (wFI (wAL σ1 145 0 z) 85 0 (nI 0)) := Inv_tn (Inv_o (Inv_off ho hI0))
      have hSz : IS2 (wFI (wAL σ1 145 0 z) 85 0 (nI 0)) := hI1.2.2.2.2.1.2.1
      have eIn : (fun m => (inR (wFI (wAL σ1 145 0 z) 85 0 (nI 0)) m y nJ).2) = (fun m => (inR σ m y nJ).2) := by
        funext m
        rw [inR_c (σ := σ1) (τ := wFI (wAL σ1 145 0 z) 85 0 (nI 0)) rfl rfl rfl, inR_off ho]
      have hMW := MW_of (σ := wFI (wAL σ1 145 0 z) 85 0 (nI 0)) (nJ := nJ) (M := nM) (nS := nS) hM1 hX hSz ((offF ho 85 53 rfl).trans eJ) hJ ((offF ho 85 29 rfl).trans eM) hM ((offF ho 85 52 rfl).trans eS) hS4 hy
      rw [eIn] at hMW
      have eW1 := (offF ho 85 1 rfl).trans eW
      have eM1 := (offF ho 85 29 rfl).trans eM
      have eB1 := (offF ho 85 2 rfl).trans eB
      have eP1 := (offF ho 85 30 rfl).trans eP
      have eD1 := (offF ho 85 39 rfl).trans eD
      have eS1 := (offF ho 85 52 rfl).trans eS
      have eJ1 := (offF ho 85 53 rfl).trans eJ
      have eL1 := (offF ho 85 62 rfl).trans eL
      have eQ1 := (offF ho 85 63 rfl).trans eQ
      have eO1 := (offF ho 85 75 rfl).trans eO
      have eA1 := (offF ho 85 85 rfl).trans eA
      obtain ⟨z7, r2⟩ := c252_a (σ := wFI (wAL σ1 145 0 z) 85 0 (nI 0)) (d := e + 39) (t := t) (a3 := nI c) (by omega) hy hM1 hI1.2.2.2.2.2.1 ((offF ho 85 62 rfl).trans eL) hL
      rw [pyz σ1 z ho] at r2
      obtain ⟨τ', p1, k1⟩ := c252_b (σ := wFI (wAL σ1 145 0 z) 85 0 (nI 0)) (d := e + 39) (c := c) (all := (pyN σ LS t y nL)) (a1 := nI t) (z7 := z7) (by omega) ((offF ho 85 1 rfl).trans eW) hMW hc hpl
      refine ⟨τ', pt_M p1, ?_⟩
      simp (disch := first | omega | assumption | exact FI_q | exact nI_10 | exact nI_20 | exact nI_30 | (simp (disch := omega) only [AI_q, AI_n, AL_q, AL_n, FI_q, FI_n, AI_ff, AI_fl, AI_la, AI_tt, FI_aa, FI_la, FI_fl, FI_tt, AL_ff, AL_aa, AL_fw, AL_tt, eW1, eM1, eB1, eP1, eD1, eS1, eJ1, eL1, eQ1, eO1, eA1]; done) | fail) only [s31_0, s31_5, s31_11, s31_15, s252_0, s252_17, s252_21, s252_31, s252_38, s252_50, c46_t, c46_f, c42_t, c42_f, c43_t, c43_f, c44_t, c44_f, c45_t, c45_f, c166_T, c166_F, c165_t, c165_f, c169_t, c169_f, c170_t, c170_f, c209_t, c209_f, c244_t, c244_f, H51_t, H51_f, H52_t, H52_f, H241_t, H241_f, HXnS, HYnS, HNnS, HOnS, aft_v, aft_n, aft_x2, z00, z10, oTr, oFa, cond_true, cond_false, nI_add, nI_mul, nI_s1, nI_clamp, inbT, oltT, oltF, oleT, oleF, oeqT, oeqF, is01_0, is01_1, AI_q, AI_n, AL_q, AL_n, FI_q, FI_n, AI_ff, AI_fl, AI_la, AI_tt, FI_aa, FI_la, FI_fl, FI_tt, AL_ff, AL_aa, AL_fw, AL_tt, eW, eWc, eM, eMc, eB, eBc, eP, ePc, eD, eDc, eS, eSc, eJ, eJc, eL, eLc, eQ, eQc, eO, eOc, eA, eAc, eW1, eM1, eB1, eP1, eD1, eS1, eJ1, eL1, eQ1, eO1, eA1]
      refine r2.trans ?_
      rw [s252_61, show FI (wFI (wAL σ1 145 0 z) 85 0 (nI 0)) 85 62 = nI nL from (offF ho 85 62 rfl).trans eL, oleT (Nat.le_refl _) (by omega), cond_true, m1, cond_false]
      exact k1
