/-! printed by wip/whole/ops.py: the ops that write no more than they say -/
set_option maxHeartbeats 8000000 in
theorem op_shyest {σ : PS} (hI : Inv σ) (a1 : Int32) : Op (fun d σ => Run false d 39 0 [some (.ref 0), some (.int a1), none, none, none, none, none] [] σ) (fun d σ => Run false d 265 0 [some (.ref 85), some (.int a1), none, none, none, none, none] [] σ) σ isI (fun E => if E = 1 then 1 else 0) := by
  have hI0 := hI
  obtain ⟨⟨⟨nW, hW, eW, eWc⟩, ⟨nM, hM, eM, eMc⟩, eTr, eIs⟩, ⟨⟨nB, hB, eB, eBc, hBy⟩, eFa, eC10⟩, ⟨⟨nP, hP, eP, ePc, hTr⟩, hPk, hSo, hGr, hCo⟩, ⟨nD, hD, eD, eDc, hDe⟩, ⟨⟨nS, hS, eS, eSc⟩, ⟨nJ, hJ, eJ, eJc, hJo⟩, hPa⟩, ⟨nL, nQ, hL, hQ, eL, eLc, eQ, eQc, hLo, hNo, eFg⟩, ⟨nO, hO, eO, eOc, hOf, hOz⟩, ⟨nA, hA, eA, eAc, hSa⟩, ⟨hBi, hOr⟩, LS, hIL⟩ := hI
  by_cases h1 : IR 0 40 a1
  case neg =>
    refine opE_of hI0 1 1 (.int (nI 0)) ⟨_, rfl⟩ (by decide) rfl (by decide) (fun d => ?_) (fun d => ?_)
    · simp (disch := first | omega | assumption | exact FI_q | exact nI_10 | exact nI_20 | exact nI_30 | (simp (disch := omega) only [AI_q, AI_n, AL_q, AL_n, FI_q, FI_n, AI_ff, AI_fl, AI_la, AI_tt, FI_aa, FI_la, FI_fl, FI_tt, AL_ff, AL_aa, AL_fw, AL_tt, eW, eWc, eM, eMc, eB, eBc, eP, ePc, eD, eDc, eS, eSc, eJ, eJc, eL, eLc, eQ, eQc, eO, eOc, eA, eAc]; done) | fail) only [s39_0, s39_4, s39_13, s265_0, s265_10, s265_14, c46_t, c46_f, c42_t, c42_f, c43_t, c43_f, c44_t, c44_f, c45_t, c45_f, c166_T, c166_F, c165_t, c165_f, c169_t, c169_f, c170_t, c170_f, c209_t, c209_f, c244_t, c244_f, aft_v, aft_n, aft_x2, z00, z10, oTr, oFa, cond_true, cond_false, nI_add, nI_mul, nI_s1, nI_clamp, inbT, oltT, oltF, oleT, oleF, oeqT, oeqF, is01_0, is01_1, AI_q, AI_n, AL_q, AL_n, FI_q, FI_n, AI_ff, AI_fl, AI_la, AI_tt, FI_aa, FI_la, FI_fl, FI_tt, AL_ff, AL_aa, AL_fw, AL_tt, eW, eWc, eM, eMc, eB, eBc, eP, ePc, eD, eDc, eS, eSc, eJ, eJc, eL, eLc, eQ, eQc, eO, eOc, eA, eAc]
    · simp (disch := first | omega | assumption | exact FI_q | exact nI_10 | exact nI_20 | exact nI_30 | (simp (disch := omega) only [AI_q, AI_n, AL_q, AL_n, FI_q, FI_n, AI_ff, AI_fl, AI_la, AI_tt, FI_aa, FI_la, FI_fl, FI_tt, AL_ff, AL_aa, AL_fw, AL_tt, eW, eWc, eM, eMc, eB, eBc, eP, ePc, eD, eDc, eS, eSc, eJ, eJc, eL, eLc, eQ, eQc, eO, eOc, eA, eAc]; done) | fail) only [s39_0, s39_4, s39_13, s265_0, s265_10, s265_14, c46_t, c46_f, c42_t, c42_f, c43_t, c43_f, c44_t, c44_f, c45_t, c45_f, c166_T, c166_F, c165_t, c165_f, c169_t, c169_f, c170_t, c170_f, c209_t, c209_f, c244_t, c244_f, aft_v, aft_n, aft_x2, z00, z10, oTr, oFa, cond_true, cond_false, nI_add, nI_mul, nI_s1, nI_clamp, inbT, oltT, oltF, oleT, oleF, oeqT, oeqF, is01_0, is01_1, AI_q, AI_n, AL_q, AL_n, FI_q, FI_n, AI_ff, AI_fl, AI_la, AI_tt, FI_aa, FI_la, FI_fl, FI_tt, AL_ff, AL_aa, AL_fw, AL_tt, eW, eWc, eM, eMc, eB, eBc, eP, ePc, eD, eDc, eS, eSc, eJ, eJc, eL, eLc, eQ, eQc, eO, eOc, eA, eAc]
  obtain ⟨y, -, hy, rfl⟩ := id h1
  have hC := IL_C hIL
  have hM' := IL_M hIL eIs
  have hPP : IP σ := hI0.2.2.1
  have hD' : ID σ := hI0.2.2.2.1
  have hS : IS σ := hI0.2.2.2.2.1
  have hMM : IM σ := hI0.2.2.2.2.2.2.2.1
  have hOO : IO_ σ := hI0.2.2.2.2.2.1
  have hdb : ∀ m s, dcN σ y (nI nW) nD m s ≤ 10000000 := fun m s => (dcN_e hD' eD hD).2
  have esh : ∀ τ, (∀ m s, shN τ m s y nA nL (dcN σ y (nI nW) nD m s) = shN σ m s y nA nL (dcN σ y (nI nW) nD m s)) → (fun m s => shN τ m s y nA nL (dcN σ y (nI nW) nD m s)) = (fun m s => shN σ m s y nA nL (dcN σ y (nI nW) nD m s)) := fun τ h => by
    funext m s
    exact h m s
  refine opQ_of hI0 (.int (shP (fun m s => shN σ m s y nA nL (dcN σ y (nI nW) nD m s)) (5 * nM)).2) ⟨_, rfl⟩ (fun d => ?_) (fun σ1 z e ho => ?_)
  · obtain ⟨τ, o1, ⟨-, v1⟩, r1⟩ := c55 (d := d + 39) (k := nI nW) (by omega) hy hC hD' eDc hD hS eJc hJ eMc hM
    obtain ⟨τ', o2, r2⟩ := c39_lp (σ := τ) (d := d + 39) (y := y) (nA := nA) (nL := nL) (M := nM) (dec := dcN σ y (nI nW) nD) (by omega) (Inv_off o1 hI0) ((offF o1 78 0 rfl).trans eAc) ((offF o1 85 85 rfl).trans eA) hA ((offF o1 60 0 rfl).trans eLc) hL ((offF o1 0 1 rfl).trans eMc) hM (fun m s hm hs => (v1 m hm).1 s hs) hdb
    rw [esh τ (fun m s => shN_off o1)] at r2
    refine ⟨τ', off_t o1 o2, ?_⟩
    simp (disch := first | omega | assumption | exact FI_q | exact nI_10 | exact nI_20 | exact nI_30 | (simp (disch := omega) only [AI_q, AI_n, AL_q, AL_n, FI_q, FI_n, AI_ff, AI_fl, AI_la, AI_tt, FI_aa, FI_la, FI_fl, FI_tt, AL_ff, AL_aa, AL_fw, AL_tt, eW, eWc, eM, eMc, eB, eBc, eP, ePc, eD, eDc, eS, eSc, eJ, eJc, eL, eLc, eQ, eQc, eO, eOc, eA, eAc]; done) | fail) only [s39_0, s39_4, s39_13, c43_t, aft_v, aft_n, eWc, r1]
    exact r2
  · skip
    have hI1 : Inv (wFI (wAL σ1 145 0 z) 85 0 (nI 0)) := Inv_tn (Inv_o (Inv_off ho hI0))
    have hMz : IM (wFI (wAL σ1 145 0 z) 85 0 (nI 0)) := hI1.2.2.2.2.2.2.2.1
    have hOz' : IO_ (wFI (wAL σ1 145 0 z) 85 0 (nI 0)) := hI1.2.2.2.2.2.1
    have hLz : FI (wFI (wAL σ1 145 0 z) 85 0 (nI 0)) 60 0 = nI nL := (offF ho 60 0 rfl).trans eLc
    have hAz : FI (wFI (wAL σ1 145 0 z) 85 0 (nI 0)) 85 85 = nI nA := (offF ho 85 85 rfl).trans eA
    have eW1 := (offF ho 85 1 rfl).trans eW
    have eM1 := (offF ho 85 29 rfl).trans eM
    have eB1 := (offF ho 85 2 rfl).trans eB
    have eP1 := (offF ho 85 30 rfl).trans eP
    have eD1 := (offF ho 85 39 rfl).trans eD
    have eS1 := (offF ho 85 52 rfl).trans eS
    have eJ1 := (offF ho 85 53 rfl).trans eJ
    have eL1 := (offF ho 85 62 rfl).trans eL
    have eQ1 := (offF ho 85 63 rfl).trans eQ
    have eO1 := (offF ho 85 75 rfl).trans eO
    have eA1 := (offF ho 85 85 rfl).trans eA
    have hM0 : LM LS none σ1 := LM_off ho hM'
    have hM1 : LM LS none (wFI (wAL σ1 145 0 z) 85 0 (nI 0)) := hM0
    have hD1 : ID (wFI (wAL σ1 145 0 z) 85 0 (nI 0)) := (ID_off ho hD' : ID σ1)
    have hN1 : FI (wFI (wAL σ1 145 0 z) 85 0 (nI 0)) 85 39 = nI nD := (offF ho 85 39 rfl).trans eD
    have hT1 : FI (wFI (wAL σ1 145 0 z) 85 0 (nI 0)) 85 45 = -1 := (offF ho 85 45 rfl).trans eTr
    have eDD : dcN (wFI (wAL σ1 145 0 z) 85 0 (nI 0)) y (nI nW) nD = dcN σ y (nI nW) nD := dcN_z.trans (dcN_off' ho)
    have hX := DM_no (y := y) (k := (nI nW)) hD1 hN1 hD hT1
    rw [eDD] at hX
    obtain ⟨τ, o1, r1⟩ := c265_lp (σ := wFI (wAL σ1 145 0 z) 85 0 (nI 0)) (d := e + 39) (y := y) (nA := nA) (nL := nL) (M := nM) (dec := dcN σ y (nI nW) nD) (by omega) hI1 hAz hA hLz hL ((offF ho 85 29 rfl).trans eM) hM ((offF ho 85 1 rfl).trans eW) hX
    rw [esh (wFI (wAL σ1 145 0 z) 85 0 (nI 0)) (fun m s => by unfold shN; rw [spN_z, frN_z, spN_off ho (Or.inl rfl), frN_off ho])] at r1
    refine ⟨τ, o1, ?_⟩
    simp (disch := first | omega | assumption | exact FI_q | exact nI_10 | exact nI_20 | exact nI_30 | (simp (disch := omega) only [AI_q, AI_n, AL_q, AL_n, FI_q, FI_n, AI_ff, AI_fl, AI_la, AI_tt, FI_aa, FI_la, FI_fl, FI_tt, AL_ff, AL_aa, AL_fw, AL_tt, eW1, eM1, eB1, eP1, eD1, eS1, eJ1, eL1, eQ1, eO1, eA1]; done) | fail) only [s265_0, s265_10, s265_14, c170_t, c165_t, aft_v, aft_n, z10, cond_false, eW1, eM1, eB1, eP1, eD1, eS1, eJ1, eL1, eQ1, eO1, eA1]
    exact r1
