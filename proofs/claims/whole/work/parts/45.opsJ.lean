/-! printed by wip/whole/ops.py: the ops that write no more than they say -/
set_option maxHeartbeats 8000000 in
theorem op_packet {σ : PS} (hI : Inv σ) (a1 : Int32) : Op (fun d σ => Run false d 8 0 [some (.ref 0), some (.int a1)] [] σ) (fun d σ => Run false d 207 0 [some (.ref 85), some (.int a1), none] [] σ) σ isI (fun E => if E = 4 then 1 else 0) := by
  have hI0 := hI
  obtain ⟨⟨⟨nW, hW, eW, eWc⟩, ⟨nM, hM, eM, eMc⟩, eTr, eIs⟩, ⟨⟨nB, hB, eB, eBc, hBy⟩, eFa, eC10⟩, ⟨⟨nP, hP, eP, ePc, hTr⟩, hPk, hSo, hGr, hCo⟩, ⟨nD, hD, eD, eDc, hDe⟩, ⟨⟨nS, hS, eS, eSc⟩, ⟨nJ, hJ, eJ, eJc, hJo⟩, hPa⟩, ⟨nL, nQ, hL, hQ, eL, eLc, eQ, eQc, hLo, hNo, eFg⟩, ⟨nO, hO, eO, eOc, hOf, hOz⟩, ⟨nA, hA, eA, eAc, hSa⟩, ⟨hBi, hOr⟩, LS, hIL⟩ := hI
  have H48_t := fun (d : Nat) (σ : PS) (a : Int32) => @c48_t d σ a nM
  have H48_f := fun (d : Nat) (σ : PS) (a : Int32) => @c48_f d σ a nM
  have H206_t := fun (d : Nat) (σ : PS) (a : Int32) => @c206_t d σ a nM
  have H206_f := fun (d : Nat) (σ : PS) (a : Int32) => @c206_f d σ a nM
  have HXnM := fun (d : Nat) (σ : PS) (a : Int32) => @c166_X d σ a nM
  have HYnM := fun (d : Nat) (σ : PS) (a : Int32) => @c166_Y d σ a nM
  have HNnM := fun (d : Nat) (σ : PS) (a : Int32) => @c166_N d σ a nM
  have HOnM := fun (d : Nat) (σ : PS) (a : Int32) => @c166_M d σ a nM
  by_cases h1 : IX nM a1
  case neg =>
    refine opE_of hI0 4 1 (.int (nI 0)) ⟨_, rfl⟩ (by decide) rfl (by decide) (fun d => ?_) (fun d => ?_)
    · simp (disch := first | omega | assumption | exact FI_q | exact nI_10 | exact nI_20 | exact nI_30 | (simp (disch := omega) only [AI_q, AI_n, AL_q, AL_n, FI_q, FI_n, AI_ff, AI_fl, AI_la, AI_tt, FI_aa, FI_la, FI_fl, FI_tt, AL_ff, AL_aa, AL_fw, AL_tt, eW, eWc, eM, eMc, eB, eBc, eP, ePc, eD, eDc, eS, eSc, eJ, eJc, eL, eLc, eQ, eQc, eO, eOc, eA, eAc]; done) | fail) only [s8_0, s8_5, s8_13, s207_0, s207_10, s122_0, c46_t, c46_f, c42_t, c42_f, c43_t, c43_f, c44_t, c44_f, c45_t, c45_f, c166_T, c166_F, c165_t, c165_f, c169_t, c169_f, c170_t, c170_f, c209_t, c209_f, c244_t, c244_f, H48_t, H48_f, H206_t, H206_f, HXnM, HYnM, HNnM, HOnM, aft_v, aft_n, aft_x2, z00, z10, oTr, oFa, cond_true, cond_false, nI_add, nI_mul, nI_s1, nI_clamp, inbT, oltT, oltF, oleT, oleF, oeqT, oeqF, is01_0, is01_1, AI_q, AI_n, AL_q, AL_n, FI_q, FI_n, AI_ff, AI_fl, AI_la, AI_tt, FI_aa, FI_la, FI_fl, FI_tt, AL_ff, AL_aa, AL_fw, AL_tt, eW, eWc, eM, eMc, eB, eBc, eP, ePc, eD, eDc, eS, eSc, eJ, eJc, eL, eLc, eQ, eQc, eO, eOc, eA, eAc]
    · simp (disch := first | omega | assumption | exact FI_q | exact nI_10 | exact nI_20 | exact nI_30 | (simp (disch := omega) only [AI_q, AI_n, AL_q, AL_n, FI_q, FI_n, AI_ff, AI_fl, AI_la, AI_tt, FI_aa, FI_la, FI_fl, FI_tt, AL_ff, AL_aa, AL_fw, AL_tt, eW, eWc, eM, eMc, eB, eBc, eP, ePc, eD, eDc, eS, eSc, eJ, eJc, eL, eLc, eQ, eQc, eO, eOc, eA, eAc]; done) | fail) only [s8_0, s8_5, s8_13, s207_0, s207_10, s122_0, c46_t, c46_f, c42_t, c42_f, c43_t, c43_f, c44_t, c44_f, c45_t, c45_f, c166_T, c166_F, c165_t, c165_f, c169_t, c169_f, c170_t, c170_f, c209_t, c209_f, c244_t, c244_f, H48_t, H48_f, H206_t, H206_f, HXnM, HYnM, HNnM, HOnM, aft_v, aft_n, aft_x2, z00, z10, oTr, oFa, cond_true, cond_false, nI_add, nI_mul, nI_s1, nI_clamp, inbT, oltT, oltF, oleT, oleF, oeqT, oeqF, is01_0, is01_1, AI_q, AI_n, AL_q, AL_n, FI_q, FI_n, AI_ff, AI_fl, AI_la, AI_tt, FI_aa, FI_la, FI_fl, FI_tt, AL_ff, AL_aa, AL_fw, AL_tt, eW, eWc, eM, eMc, eB, eBc, eP, ePc, eD, eDc, eS, eSc, eJ, eJc, eL, eLc, eQ, eQc, eO, eOc, eA, eAc]
  obtain ⟨m, hm, rfl⟩ := id h1
  by_cases hP2 : nP < 20
  case neg =>
    refine opV_of (.int (-1 : Int32)) (σ) (fun z => (wFI (wAL (σ) 145 0 z) 85 0 (nI 0))) ⟨_, rfl⟩ (fun d => ?_) (fun z d => ?_) (fun z => ?_) (fun z => rfl) (fun z => rfl) (fun z => Kp_eq rfl rfl)
    · simp (disch := first | omega | assumption | exact FI_q | exact nI_10 | exact nI_20 | exact nI_30 | (simp (disch := omega) only [AI_q, AI_n, AL_q, AL_n, FI_q, FI_n, AI_ff, AI_fl, AI_la, AI_tt, FI_aa, FI_la, FI_fl, FI_tt, AL_ff, AL_aa, AL_fw, AL_tt, eW, eWc, eM, eMc, eB, eBc, eP, ePc, eD, eDc, eS, eSc, eJ, eJc, eL, eLc, eQ, eQc, eO, eOc, eA, eAc]; done) | fail) only [s8_0, s8_5, s8_13, s207_0, s207_10, s122_0, c46_t, c46_f, c42_t, c42_f, c43_t, c43_f, c44_t, c44_f, c45_t, c45_f, c166_T, c166_F, c165_t, c165_f, c169_t, c169_f, c170_t, c170_f, c209_t, c209_f, c244_t, c244_f, H48_t, H48_f, H206_t, H206_f, HXnM, HYnM, HNnM, HOnM, aft_v, aft_n, aft_x2, z00, z10, oTr, oFa, cond_true, cond_false, nI_add, nI_mul, nI_s1, nI_clamp, inbT, oltT, oltF, oleT, oleF, oeqT, oeqF, is01_0, is01_1, AI_q, AI_n, AL_q, AL_n, FI_q, FI_n, AI_ff, AI_fl, AI_la, AI_tt, FI_aa, FI_la, FI_fl, FI_tt, AL_ff, AL_aa, AL_fw, AL_tt, eW, eWc, eM, eMc, eB, eBc, eP, ePc, eD, eDc, eS, eSc, eJ, eJc, eL, eLc, eQ, eQc, eO, eOc, eA, eAc]
    · simp (disch := first | omega | assumption | exact FI_q | exact nI_10 | exact nI_20 | exact nI_30 | (simp (disch := omega) only [AI_q, AI_n, AL_q, AL_n, FI_q, FI_n, AI_ff, AI_fl, AI_la, AI_tt, FI_aa, FI_la, FI_fl, FI_tt, AL_ff, AL_aa, AL_fw, AL_tt, eW, eWc, eM, eMc, eB, eBc, eP, ePc, eD, eDc, eS, eSc, eJ, eJc, eL, eLc, eQ, eQc, eO, eOc, eA, eAc]; done) | fail) only [s8_0, s8_5, s8_13, s207_0, s207_10, s122_0, c46_t, c46_f, c42_t, c42_f, c43_t, c43_f, c44_t, c44_f, c45_t, c45_f, c166_T, c166_F, c165_t, c165_f, c169_t, c169_f, c170_t, c170_f, c209_t, c209_f, c244_t, c244_f, H48_t, H48_f, H206_t, H206_f, HXnM, HYnM, HNnM, HOnM, aft_v, aft_n, aft_x2, z00, z10, oTr, oFa, cond_true, cond_false, nI_add, nI_mul, nI_s1, nI_clamp, inbT, oltT, oltF, oleT, oleF, oeqT, oeqF, is01_0, is01_1, AI_q, AI_n, AL_q, AL_n, FI_q, FI_n, AI_ff, AI_fl, AI_la, AI_tt, FI_aa, FI_la, FI_fl, FI_tt, AL_ff, AL_aa, AL_fw, AL_tt, eW, eWc, eM, eMc, eB, eBc, eP, ePc, eD, eDc, eS, eSc, eJ, eJc, eL, eLc, eQ, eQc, eO, eOc, eA, eAc]
    · exact Inv_tn (Inv_o hI0)
  obtain ⟨K, hK⟩ : ∃ K, K = 41 := ⟨41, rfl⟩
  have C207 : ∀ (d : Nat) (ρ : PS) (a : Int32), FI ρ 85 30 = nI nP → Run false (d + 1) 207 38 [some (.ref 85), some (.int a), some (.int (nI 0))] [] ρ = some (.inl (some (.int (nI nP)), wFI (filA 104 (41 * nP) (nI 1) ρ K) 85 30 (nI (nP + 1)))) := fun d ρ a e => by
    rw [hK]
    exact c207_lp hP2 e
  refine opV_of (.int (nI nP)) (wFI (wAI σ 18 nP (nI m)) 17 0 (nI (nP + 1))) (fun z => wFI (filA 104 (41 * nP) (nI 1) (wAI (wFI (wAL (wFI (wAI σ 18 nP (nI m)) 17 0 (nI (nP + 1))) 145 0 z) 85 0 (nI 0)) 97 nP (nI m)) K) 85 30 (nI (nP + 1))) ⟨_, rfl⟩ (fun d => ?_) (fun z d => ?_) (fun z => ?_) (fun z => ?_) (fun z => ?_) (fun z => ?_)
  · simp (disch := first | omega | assumption | exact FI_q | exact nI_10 | exact nI_20 | exact nI_30 | (simp (disch := omega) only [AI_q, AI_n, AL_q, AL_n, FI_q, FI_n, AI_ff, AI_fl, AI_la, AI_tt, FI_aa, FI_la, FI_fl, FI_tt, AL_ff, AL_aa, AL_fw, AL_tt, eW, eWc, eM, eMc, eB, eBc, eP, ePc, eD, eDc, eS, eSc, eJ, eJc, eL, eLc, eQ, eQc, eO, eOc, eA, eAc]; done) | fail) only [s8_0, s8_5, s8_13, s207_0, s207_10, s122_0, c46_t, c46_f, c42_t, c42_f, c43_t, c43_f, c44_t, c44_f, c45_t, c45_f, c166_T, c166_F, c165_t, c165_f, c169_t, c169_f, c170_t, c170_f, c209_t, c209_f, c244_t, c244_f, H48_t, H48_f, H206_t, H206_f, HXnM, HYnM, HNnM, HOnM, aft_v, aft_n, aft_x2, z00, z10, oTr, oFa, cond_true, cond_false, nI_add, nI_mul, nI_s1, nI_clamp, inbT, oltT, oltF, oleT, oleF, oeqT, oeqF, is01_0, is01_1, AI_q, AI_n, AL_q, AL_n, FI_q, FI_n, AI_ff, AI_fl, AI_la, AI_tt, FI_aa, FI_la, FI_fl, FI_tt, AL_ff, AL_aa, AL_fw, AL_tt, eW, eWc, eM, eMc, eB, eBc, eP, ePc, eD, eDc, eS, eSc, eJ, eJc, eL, eLc, eQ, eQc, eO, eOc, eA, eAc]
  · simp (disch := first | omega | assumption | exact FI_q | exact nI_10 | exact nI_20 | exact nI_30 | (simp (disch := omega) only [AI_q, AI_n, AL_q, AL_n, FI_q, FI_n, AI_ff, AI_fl, AI_la, AI_tt, FI_aa, FI_la, FI_fl, FI_tt, AL_ff, AL_aa, AL_fw, AL_tt, eW, eWc, eM, eMc, eB, eBc, eP, ePc, eD, eDc, eS, eSc, eJ, eJc, eL, eLc, eQ, eQc, eO, eOc, eA, eAc]; done) | fail) only [s8_0, s8_5, s8_13, s207_0, s207_10, s122_0, c46_t, c46_f, c42_t, c42_f, c43_t, c43_f, c44_t, c44_f, c45_t, c45_f, c166_T, c166_F, c165_t, c165_f, c169_t, c169_f, c170_t, c170_f, c209_t, c209_f, c244_t, c244_f, H48_t, H48_f, H206_t, H206_f, HXnM, HYnM, HNnM, HOnM, aft_v, aft_n, aft_x2, z00, z10, oTr, oFa, cond_true, cond_false, nI_add, nI_mul, nI_s1, nI_clamp, inbT, oltT, oltF, oleT, oleF, oeqT, oeqF, is01_0, is01_1, AI_q, AI_n, AL_q, AL_n, FI_q, FI_n, AI_ff, AI_fl, AI_la, AI_tt, FI_aa, FI_la, FI_fl, FI_tt, AL_ff, AL_aa, AL_fw, AL_tt, eW, eWc, eM, eMc, eB, eBc, eP, ePc, eD, eDc, eS, eSc, eJ, eJc, eL, eLc, eQ, eQc, eO, eOc, eA, eAc, C207]
  · have hg : OffG (fun o k => Nat.beq o 17 || (Nat.beq o 85 && (Nat.beq k 0 || Nat.beq k 30))) (fun o => Nat.beq o 18 || Nat.beq o 97 || Nat.beq o 104 || Nat.beq o 145) σ (wFI (filA 104 (41 * nP) (nI 1) (wAI (wFI (wAL (wFI (wAI σ 18 nP (nI m)) 17 0 (nI (nP + 1))) 145 0 z) 85 0 (nI 0)) 97 nP (nI m)) K) 85 30 (nI (nP + 1))) := offG_fi rfl (offG_t (offG_ai rfl (offG_fi rfl (offG_al rfl (offG_fi rfl (offG_ai rfl offG_r))))) (filA_g rfl K))
    obtain ⟨g0, g1, g2, g3, g4, g5, g6, g7, g8, LS, g9⟩ := hI0
    refine ⟨I0g hg rfl g0, ITg hg rfl rfl g1, ⟨⟨nP + 1, hP2, FI_q, ?_, fun j hj => ?_⟩, fun p hp => ?_, ?_, ?_, ?_⟩, IDg hg rfl rfl g3, ISg hg rfl rfl g4, IO_g hg rfl rfl g5, IF_g hg rfl rfl g6, IMg hg rfl rfl g7, IBg hg rfl g8, LS, ILg hg rfl rfl g9⟩
    · rw [FI_n (Or.inl (by decide)), filA_f, FI_aa, FI_n (Or.inl (by decide)), FI_la, FI_q]
    · obtain ⟨t1, t2⟩ := hTr j hj
      rw [(hg.2 23 rfl).1]
      rw [AI_ff, filA_i]
      by_cases q : j < 41 * nP
      · rw [if_neg (by omega)]
        exact ⟨fun _ => t1 q, fun w => by omega⟩
      · refine ⟨fun w => ?_, fun w => t2 (by omega)⟩
        rw [if_pos (by omega)]
        exact ⟨t2 (by omega), ir_nI (by decide) (by decide)⟩
    · obtain ⟨u1, u2, u3⟩ := hPk p hp
      rw [(hg.2 19 rfl).1, (hg.2 20 rfl).1, (hg.2 98 rfl).1, (hg.2 99 rfl).1]
      rw [AI_ff, AI_ff]
      rw [filA_i, filA_i, if_neg (by omega), if_neg (by omega)]
      refine ⟨?_, ?_, u3⟩
      · by_cases q : p = nP
        · subst q
          simp (disch := omega) only [AI_q, AI_n, AL_q, AL_n, FI_q, FI_n, AI_ff, AI_fl, AI_la, AI_tt, FI_aa, FI_la, FI_fl, FI_tt, AL_ff, AL_aa, AL_fw, AL_tt]
        · simp (disch := omega) only [AI_q, AI_n, AL_q, AL_n, FI_q, FI_n, AI_ff, AI_fl, AI_la, AI_tt, FI_aa, FI_la, FI_fl, FI_tt, AL_ff, AL_aa, AL_fw, AL_tt]
          exact u1
      · by_cases q : p = nP
        · subst q
          simp (disch := omega) only [AI_q, AI_n, AL_q, AL_n, FI_q, FI_n, AI_ff, AI_fl, AI_la, AI_tt, FI_aa, FI_la, FI_fl, FI_tt, AL_ff, AL_aa, AL_fw, AL_tt]
          exact ir_nI (Nat.zero_le _) (by omega)
        · simp (disch := omega) only [AI_q, AI_n, AL_q, AL_n, FI_q, FI_n, AI_ff, AI_fl, AI_la, AI_tt, FI_aa, FI_la, FI_fl, FI_tt, AL_ff, AL_aa, AL_fw, AL_tt]
          exact u2
    · intro j hj
      rw [(hg.2 21 rfl).1, (hg.2 22 rfl).1, (hg.2 102 rfl).1, (hg.2 103 rfl).1]
      exact hSo j hj
    · intro j hj
      rw [(hg.2 24 rfl).1, (hg.2 100 rfl).1]
      exact hGr j hj
    · intro j hj
      rw [(hg.2 25 rfl).1, (hg.2 101 rfl).1]
      exact hCo j hj
  · rw [AL_ff, filA_al, AL_aa, AL_ff, AL_q]
  · rw [FI_n (Or.inr (by decide)), filA_f, FI_aa, FI_q]
  · refine Kp_eq ?_ ?_
    · exact (filA_x K).trans rfl
    · funext j
      rw [AI_ff, filA_i, if_neg (by omega)]
      simp (disch := omega) only [AI_q, AI_n, AL_q, AL_n, FI_q, FI_n, AI_ff, AI_fl, AI_la, AI_tt, FI_aa, FI_la, FI_fl, FI_tt, AL_ff, AL_aa, AL_fw, AL_tt]
