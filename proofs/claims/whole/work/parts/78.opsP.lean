/-! THE PURE PROOFS: the op law -/
def OpD (D : Nat) (cls mdl : Nat → PS → Option PO) (σ : PS) (ok : Value → Prop) (code : Nat → Nat) : Prop := ∀ d e, D ≤ d → D ≤ e → OpV d e cls mdl σ ok ∨ OpE d e cls mdl σ ok code
theorem opD_of {D : Nat} {cls mdl : Nat → PS → Option PO} {σ : PS} {ok : Value → Prop} {code : Nat → Nat} (h : Op cls mdl σ ok code) (hD : 40 ≤ D) : OpD D cls mdl σ ok code := fun d e hd he => h d e (by omega) (by omega)
section TE
variable {B : Nat → Nat} {N q d r c u n : Nat} {σ τ υ : PS}
theorem ctx_c (o1 : Off (fgt σ) υ) (g1 : KF r c u υ τ) : (∀ k, scF 85 k = false → FI τ 85 k = FI σ 85 k) ∧ (∀ o, 87 ≤ o → o ≤ 95 → AI τ o = AI σ o) ∧ AI τ 86 = AI σ 86 ∧ AI τ 2 = AI σ 2 ∧ FI τ 1 0 = FI σ 1 0 ∧ FI τ 12 0 = nI 0 ∧ XX τ = XX σ ∧ AI τ 999 = AI σ 999 ∧ OffG sFt sAt σ τ ∧ ∀ r' cs, r' < r → 16 * r ≤ c → 400 * r ≤ u → rowC σ r' cs → rowC τ r' cs := by
  refine ⟨fun k hk => ?_, fun o h1 h2 => ?_, ?_, ?_, ?_, ?_, ?_, ?_, ?_, fun r' cs h1 h2 h3 h => ?_⟩
  · rw [g1.1 85 k (by omega) (by omega), offF o1 85 k hk]
    show FI (wFI (wFI (wFI σ 12 0 (nI 0)) 12 2 (nI 0)) 12 1 (-1)) 85 k = _
    rw [FI_n (by omega), FI_n (by omega), FI_n (by omega)]
  · have : o = 87 ∨ o = 88 ∨ o = 89 ∨ o = 90 ∨ o = 91 ∨ o = 92 ∨ o = 93 ∨ o = 94 ∨ o = 95 := by omega
    rw [g1.2.2.2.2.1 o (by omega), offA o1 o (by rcases this with rfl | rfl | rfl | rfl | rfl | rfl | rfl | rfl | rfl <;> rfl)]
    rfl
  · rw [g1.2.2.2.2.1 86 (by omega), offA o1 86 rfl]; rfl
  · rw [g1.2.2.2.2.1 2 (by omega), offA o1 2 rfl]; rfl
  · rw [g1.1 1 0 (by omega) (by omega), offF o1 1 0 rfl]; rfl
  · rw [g1.1 12 0 (by omega) (by omega), offF o1 12 0 rfl]
    show FI (wFI (wFI (wFI σ 12 0 (nI 0)) 12 2 (nI 0)) 12 1 (-1)) 12 0 = _
    rw [FI_n (by omega), FI_n (by omega), FI_q]
  · rw [g1.2.2.2.1, o1.1]; rfl
  · rw [g1.2.2.2.2.1 999 (by omega), offA o1 999 rfl]; rfl
  · exact offG_t (offG_t fT_fgt (fT_off o1)) (fT_kf g1)
  · refine rowC_kf (rowC_c (σ := σ) h fun o a b => ?_) g1 h1 h2 h3
    have : o = 3 ∨ o = 4 ∨ o = 5 ∨ o = 6 ∨ o = 7 ∨ o = 8 ∨ o = 9 := by omega
    rw [offA o1 o (by rcases this with rfl | rfl | rfl | rfl | rfl | rfl | rfl <;> rfl)]
    rfl
theorem ctx_m {y : Int32} (g : MK r c u (m0 r N y σ) τ) : (∀ o k, ¬ (o = 85 ∧ 2 ≤ k ∧ k ≤ 9) → FI τ o k = FI σ o k) ∧ FI τ 85 2 = nI 0 ∧ (∀ o, o ≤ 86 ∨ 96 ≤ o → AI τ o = AI σ o) ∧ AI τ 87 r = y ∧ (∀ j, j ≠ r → AI τ 87 j = AI σ 87 j ∧ AI τ 88 j = AI σ 88 j) ∧ XX τ = XX σ ∧ AL τ = AL σ ∧ OffG sFt sAt σ τ ∧ ∀ r' cs, r' < r → 16 * r ≤ c → 400 * r ≤ u → rowM σ r' cs → rowM τ r' cs := by
  have e87 : ∀ o, o ≠ 87 → ∀ j, ¬ (o = 88 ∧ j = r) → AI (m0 r N y σ) o j = AI σ o j := fun o ho j hj => by
    unfold m0
    rw [AI_ff, AI_ff, AI_ff, AI_ff, AI_ff, AI_n (by omega), AI_n (by omega), AI_ff, AI_ff]
  have f87 : ∀ j, AI (m0 r N y σ) 87 j = if j = r then y else AI σ 87 j := fun j => by
    unfold m0
    rw [AI_ff, AI_ff, AI_ff, AI_ff, AI_ff, AI_n (by omega)]
    by_cases w : j = r
    · subst w; rw [AI_q, if_pos rfl]
    · rw [AI_n (Or.inr w), if_neg w, AI_ff, AI_ff]
  refine ⟨fun o k h => ?_, ?_, fun o h => ?_, ?_, fun j hj => ⟨?_, ?_⟩, ?_, ?_, ?_, fun r' cs h1 h2 h3 h => ?_⟩
  · rw [g.1 o k (by omega)]
    unfold m0
    rw [FI_n (by omega), FI_n (by omega), FI_n (by omega), FI_n (by omega), FI_n (by omega), FI_aa, FI_aa, FI_n (by omega), FI_n (by omega)]
  · rw [g.1 85 2 (by omega)]
    unfold m0
    rw [FI_n (by omega), FI_n (by omega), FI_n (by omega), FI_n (by omega), FI_n (by omega), FI_aa, FI_aa, FI_n (by omega), FI_q]
  · rw [g.2.2.2.2.1 o (by omega)]
    funext j
    exact e87 o (by omega) j (by omega)
  · rw [g.2.2.2.2.1 87 (by omega), f87, if_pos rfl]
  · rw [g.2.2.2.2.1 87 (by omega), f87, if_neg hj]
  · rw [g.2.2.2.2.2.2.2 j hj]; exact e87 88 (by decide) j (by omega)
  · rw [g.2.2.2.1]; rfl
  · rw [g.2.2.1]; rfl
  · exact offG_t fT_m0 (fT_mk g)
  · refine rowM_mk (rowM_c (σ := σ) h (fun o a b => ?_) (e87 88 (by decide) r' (by omega))) g h1 h2 h3
    funext j
    exact e87 o (by omega) j (by omega)
theorem getD_app0 {LS : List LAW} {x : LAW} {i : Nat} (h : i < LS.length) : (LS ++ [x]).getD i (0, []) = LS.getD i (0, []) := by
  rw [List.getD_eq_getElem?_getD, List.getElem?_append_left h, List.getD_eq_getElem?_getD]
theorem getD_app1 {LS : List LAW} {x : LAW} : (LS ++ [x]).getD LS.length (0, []) = x := by
  rw [List.getD_eq_getElem?_getD, List.getElem?_append_right (Nat.le_refl _), Nat.sub_self]; rfl
theorem nI_pm {n : Nat} : nI n + nI 1 - nI 1 = nI n := by rw [nI_add, nI_s1]
set_option maxHeartbeats 1000000 in
theorem op_law (hI : Inv σ) (a1 a2 : Int32) : OpD 64 (fun d σ => Run false d 3 0 [some (.ref 0), some (.int a1), some (.int a2), none] [] σ) (fun d σ => Run false d 197 0 [some (.ref 85), some (.int a1), some (.int a2)] [] σ) σ isI (fun E => if E = 1 then 1 else 0) := by
  have dU0 : dU 0 = 38 := rfl
  have hI0 := hI
  obtain ⟨-, ⟨⟨nB, hB, eB, eBc, hBy⟩, eFa, eC10⟩, -, -, -, -, -, -, -, LS, hIL⟩ := hI
  have eIs : FI σ 85 22 = nI 0 := hI0.1.2.2.2
  by_cases h1 : IR 0 40 a1
  case neg =>
    refine opD_of (opE_of hI0 1 1 (.int (nI 0)) ⟨_, rfl⟩ (by decide) rfl (by decide) (fun d => ?_) (fun d => ?_)) (by decide)
    · show Run false (d + 39 + 1) 3 0 _ [] σ = _
      rw [s3_0, c43_f (by omega) h1, aft_x rfl]
    · show Run false (d + 39 + 1) 197 0 _ [] (thF σ) = _
      rw [s197_0, c170_f (by omega) h1, aft_v, s197_10, z00, cond_true, c165_f (by omega) FI_q nI_10, aft_v, s197_34, z00, cond_true]
  by_cases h2 : IR 0 nB a2
  case neg =>
    refine opD_of (opE_of hI0 1 1 (.int (nI 0)) ⟨_, rfl⟩ (by decide) rfl (by decide) (fun d => ?_) (fun d => ?_)) (by decide)
    · show Run false (d + 39 + 1) 3 0 _ [] σ = _
      rw [s3_0, c43_t (by omega) h1, aft_n, s3_4, c47_f (by omega) eBc h2 (by omega), aft_x rfl]
    · show Run false (d + 39 + 1) 197 0 _ [] (thF σ) = _
      have e2 : FI (wFI (thF σ) 85 0 (nI 0)) 85 2 = nI nB := eB
      rw [s197_0, c170_t (by omega) h1, aft_v, s197_10, z10, cond_false, e2, c165_f (by omega) FI_q nI_10, aft_v, s197_34, z00, cond_true]
      by_cases w : a2 < nI 0
      · rw [obl_t w, cond_true]
      · by_cases v : nI nB < a2
        · rw [obl_f w, cond_false, obl_t v, cond_true]
        · exact absurd ((ir_iff2 (by decide) (by omega)).mp ⟨w, v⟩) h2
  obtain ⟨n, -, hn, rfl⟩ := id h2
  obtain ⟨B, hBv, hB255⟩ : ∃ B : Nat → Nat, (∀ j, j < n → AI σ 86 j = nI (B j) ∧ AI σ 13 j = nI (B j)) ∧ ∀ j, j < n → B j ≤ 255 := by
    refine ⟨fun j => (AI σ 86 j).toNatClampNeg, fun j hj => ?_, fun j hj => ?_⟩
    · obtain ⟨x1, b, -, x2, x3⟩ := hBy j (by omega)
      show AI σ 86 j = nI (AI σ 86 j).toNatClampNeg ∧ AI σ 13 j = nI (AI σ 86 j).toNatClampNeg
      rw [x1, x3, nI_clamp (by omega)]
      exact ⟨rfl, rfl⟩
    · obtain ⟨-, b, -, x2, x3⟩ := hBy j (by omega)
      show (AI σ 86 j).toNatClampNeg ≤ 255
      rw [x3, nI_clamp (by omega)]; exact x2
  obtain ⟨hL, e10, eC, hLW, hRow⟩ := hIL
  have guardM : ∀ (d : Nat) (ρ : PS), FI ρ 85 2 = nI nB → Run false (d + 1 + 1 + 1 + 1) 197 0 [some (.ref 85), some (.int a1), some (.int (nI n))] [] ρ = (bif obl ((FI ρ 85 10) = (nI 10)) then some (.inl (some (.int (-1 : Int32)), (wFI (wFI (wFI ρ 85 0 (nI 0)) 85 2 (nI 0)) 85 11 (-1 : Int32)))) else aft false (d + 1 + 1 + 1 + 1) 197 70 [some (.ref 85), some (.int a1), some (.int (nI n))] [] (Run false (d + 1 + 1 + 1) 196 0 [some (.ref 85), some (.int (FI ρ 85 10)), some (.int a1), some (.int (nI n))] [] (wFI ρ 85 0 (nI 0)))) := fun d ρ h => by
    have e2 : FI (wFI ρ 85 0 (nI 0)) 85 2 = nI nB := h
    rw [s197_0, c170_t (by omega) h1, aft_v, s197_10, z10, cond_false, e2, oltF (Nat.zero_le _) (by omega), cond_false, oltF hn (by omega), cond_false, c165_t (by omega) FI_q, aft_v, s197_34, z10, cond_false]
    rfl
  by_cases h10 : LS.length = 10
  · -- the eleventh
    intro d e hd he
    obtain ⟨d, rfl⟩ : ∃ z, d = z + 4 := ⟨d - 4, by omega⟩
    obtain ⟨e, rfl⟩ : ∃ z, e = z + 4 := ⟨e - 4, by omega⟩
    refine Or.inl ⟨.int (-1), fgt σ, ⟨_, rfl⟩, ?_, fun z => ⟨wFI (wFI (wFI (wAL (fgt σ) 145 0 z) 85 0 (nI 0)) 85 2 (nI 0)) 85 11 (-1), ?_, ?_, rfl, rfl, Kp_eq rfl rfl⟩⟩
    · show Run false (d + 1 + 1 + 1 + 1) 3 0 _ [] σ = _
      rw [s3_0, c43_t (by omega) h1, aft_n, s3_4, c47_t (by omega) eBc h2 (by omega), aft_n, s3_9, eC, oltF (by omega) (by omega), cond_false, s132_0, aft_n, s3_28]
      rfl
    · show Run false (e + 1 + 1 + 1 + 1) 197 0 _ [] (wAL (fgt σ) 145 0 z) = _
      have e3 : FI (wAL (fgt σ) 145 0 z) 85 10 = nI LS.length := e10
      rw [guardM e _ (show FI (wAL (fgt σ) 145 0 z) 85 2 = nI nB from eB), e3, oeqT h10, cond_true]
    · exact inv_txt (LS := LS) hI0 (offG_fi rfl (offG_fi rfl (offG_fi rfl (offG_al rfl fT_fgt)))) eIs rfl rfl rfl eC10 (show IL LS _ from ⟨hL, e10, eC, hLW, hRow⟩)
  -- a row
  obtain ⟨res, r1, r2, r3⟩ := text_ok (B := B) (N := n) (by omega) hB255
  intro d e hd he
  obtain ⟨d, rfl⟩ : ∃ z, d = z + 4 := ⟨d - 4, by omega⟩
  obtain ⟨e, rfl⟩ : ∃ z, e = z + 4 := ⟨e - 4, by omega⟩
  obtain ⟨υ, τ, o1, g1, g2⟩ := r2 (d + 3) LS.length σ (by omega) (by omega) eC (fun j hj => (hBv j hj).2)
  obtain ⟨x1, x2, x3, x4, x5, x6, x7, x8, x9, x10⟩ := ctx_c o1 g1
  have pC : Run false (d + 4) 3 0 [some (.ref 0), some (.int a1), some (.int (nI n)), none] [] σ = aft false (d + 3 + 1) 3 38 [some (.ref 0), some (.int a1), some (.int (nI n)), none] [] (Run false (d + 3) 133 0 [some (.ref 12), some (.int (nI n)), none] [] σ) := by
    show Run false (d + 3 + 1) 3 0 _ [] σ = _
    rw [s3_0, c43_t (by omega) h1, aft_n, s3_4, c47_t (by omega) eBc h2 (by omega), aft_n, s3_9, eC, oltT (by omega) (by omega), cond_true]
  -- the model, from where the class ended
  have pM : ∀ ρ, FI ρ 85 2 = nI nB → FI ρ 85 10 = nI LS.length → AI ρ 86 = AI σ 86 → ∃ τ2, MK LS.length (16 * LS.length) (400 * LS.length) (m0 LS.length n a1 (wFI ρ 85 0 (nI 0))) τ2 ∧ ∃ x, rtM LS.length 0 τ2 x res ∧ Run false (e + 4) 197 0 [some (.ref 85), some (.int a1), some (.int (nI n))] [] ρ = aft false (e + 4) 197 70 [some (.ref 85), some (.int a1), some (.int (nI n))] [] x := fun ρ h2 h3 h4 => by
    obtain ⟨τ2, m1, m2⟩ := r3 (e + 3) LS.length a1 (wFI ρ 85 0 (nI 0)) (by omega) (by omega) (fun j hj => by rw [AI_ff, h4]; exact (hBv j hj).1)
    refine ⟨τ2, m1, _, m2, ?_⟩
    show Run false (e + 1 + 1 + 1 + 1) 197 0 _ [] ρ = _
    rw [guardM e ρ h2, h3, oeqF h10 (by omega) (by decide), cond_false]
  refine Or.inl ?_
  cases res with
  | inr kp =>
    obtain ⟨k, p⟩ := kp
    obtain ⟨g2, g3⟩ := g2
    refine ⟨.int (nI k - nI 10), τ, ⟨_, rfl⟩, ?_, fun z => ?_⟩
    · show Run false (d + 4) 3 0 _ [] σ = _
      have := r1.1
      have := r1.2.1
      rw [pC, g3, aft_v, s3_38, oeqF (by omega) (by omega) (by decide), cond_false]
    · obtain ⟨τ2, m1, x, ⟨m2, m3, m4⟩, m5⟩ := pM (wAL τ 145 0 z) ((x1 2 rfl).trans eB) ((x1 10 rfl).trans e10) x3
      obtain ⟨y1, y2, y3, y4, y5, y6, y7, y8, y9⟩ := ctx_m m1
      have hAL : AL (wFI τ2 85 11 (FI τ2 85 5)) = AL (wAL τ 145 0 z) := y7
      have hOG : OffG sFt sAt σ (wFI τ2 85 11 (FI τ2 85 5)) := offG_fi rfl (offG_t (offG_t x9 (offG_fi rfl (offG_al rfl offG_r))) y8)
      refine ⟨wFI τ2 85 11 (FI τ2 85 5), ?_, inv_txt (LS := LS) hI0 hOG ?_ ?_ ?_ ?_ ?_ ⟨hL, ?_, ?_, hLW, fun r hr => ?_⟩, ?_, ?_, Kp_eq ?_ ?_⟩
      · show Run false (e + 4) 197 0 _ [] (wAL τ 145 0 z) = _
        rw [m5, m4, aft_v, s197_70, z00, cond_true]
        show some (Sum.inl (some (Value.int (FI τ2 85 6 - nI 10)), _)) = _
        rw [m3]
      · show FI τ2 85 22 = _
        rw [y1 85 22 (by omega)]; exact (x1 22 rfl).trans eIs
      · exact y2
      · show FI τ2 12 0 = _
        rw [y1 12 0 (by omega)]; exact x6
      · show FI τ2 12 1 = FI (wFI τ2 85 11 (FI τ2 85 5)) 85 11
        rw [FI_q, m2, y1 12 1 (by omega)]; exact g2
      · show AI τ2 88 10 = _
        rw [(y5 10 (by omega)).2]; show AI τ 88 10 = _; rw [x2 88 (by decide) (by decide)]; exact eC10
      · show FI τ2 85 10 = _
        rw [y1 85 10 (by omega)]; exact (x1 10 rfl).trans e10
      · show FI τ2 1 0 = _
        rw [y1 1 0 (by omega)]; exact x5.trans eC
      · obtain ⟨w1, w2, w3, w4⟩ := hRow r hr
        refine ⟨?_, ?_, ?_, ?_⟩
        · show AI τ2 2 r = _
          rw [y3 2 (by decide)]; show AI τ 2 r = _; rw [x4]; exact w1
        · show AI τ2 87 r = _
          rw [(y5 r (by omega)).1]; show AI τ 87 r = _; rw [x2 87 (by decide) (by decide)]; exact w2
        · exact rowC_c (x10 r _ hr (Nat.le_refl _) (Nat.le_refl _) w3) (fun o a b => y3 o (by omega))
        · refine y9 r _ hr (Nat.le_refl _) (Nat.le_refl _) (rowM_c (σ := σ) w4 (fun o a b => ?_) ?_)
          · show AI τ o = _
            exact x2 o (by omega) b
          · show AI τ 88 r = _
            rw [x2 88 (by decide) (by decide)]
      · rw [hAL, AL_q]
      · show FI τ2 85 0 = _
        rw [y1 85 0 (by omega)]; exact FI_q
      · show XX τ2 = _
        rw [y6]; exact x7
      · show AI τ2 999 = _
        rw [y3 999 (by decide)]; exact x8
  | inl cs =>
    have rowC1 := rtC_row g2 r1
    obtain ⟨g2, -, -, g3⟩ := g2
    obtain ⟨y40, -, hy40, ey⟩ := h1
    refine ⟨.int (nI LS.length), wFI (wAI τ 2 LS.length a1) 1 0 (nI (LS.length + 1)), ⟨_, rfl⟩, ?_, fun z => ?_⟩
    · show Run false (d + 4) 3 0 _ [] σ = _
      rw [pC, g3, aft_v, s3_38, z00, cond_true, s97_0, x5, eC, oltT (by omega) (by decide), cond_true, inbT (by omega) (by decide), cond_true, nI_clamp (by omega), nI_pm, aft_v, s3_56, nI_add]
    · obtain ⟨τ2, m1, x, m4, m5⟩ := pM (wAL (wFI (wAI τ 2 LS.length a1) 1 0 (nI (LS.length + 1))) 145 0 z) ((x1 2 rfl).trans eB) ((x1 10 rfl).trans e10) x3
      obtain ⟨y1, y2, y3, y4, y5, y6, y7, y8, y9⟩ := ctx_m m1
      have rowM1 := rtM_row m4 r1
      obtain ⟨m2, -, -, m4⟩ := m4
      have hx10 : FI τ2 85 10 = nI LS.length := by
        rw [y1 85 10 (by omega)]; exact (x1 10 rfl).trans e10
      have hAL : AL (wFI (wFI τ2 85 11 (FI τ2 85 5)) 85 10 (nI (LS.length + 1))) = AL (wAL τ 145 0 z) := y7
      have hOG : OffG sFt sAt σ (wFI (wFI τ2 85 11 (FI τ2 85 5)) 85 10 (nI (LS.length + 1))) := offG_fi rfl (offG_fi rfl (offG_t (offG_t x9 (offG_fi rfl (offG_al rfl (offG_fi rfl (offG_ai rfl offG_r))))) y8))
      have hlen : (LS ++ [(y40, cs)]).length = LS.length + 1 := by rw [List.length_append]; rfl
      refine ⟨wFI (wFI τ2 85 11 (FI τ2 85 5)) 85 10 (nI (LS.length + 1)), ?_, inv_txt (LS := LS ++ [(y40, cs)]) hI0 hOG ?_ ?_ ?_ ?_ ?_ ⟨by rw [hlen]; omega, ?_, ?_, ?_, fun r hr => ?_⟩, ?_, ?_, Kp_eq ?_ ?_⟩
      · show Run false (e + 4) 197 0 _ [] (wAL (wFI (wAI τ 2 LS.length a1) 1 0 (nI (LS.length + 1))) 145 0 z) = _
        have hx : FI (wFI τ2 85 11 (FI τ2 85 5)) 85 10 = nI LS.length := hx10
        rw [m5, m4, aft_v, s197_70, z10, cond_false, hx, nI_pm, nI_add]
      · show FI τ2 85 22 = _
        rw [y1 85 22 (by omega)]; exact (x1 22 rfl).trans eIs
      · exact y2
      · show FI τ2 12 0 = _
        rw [y1 12 0 (by omega)]; exact x6
      · show FI τ2 12 1 = FI (wFI τ2 85 11 (FI τ2 85 5)) 85 11
        rw [FI_q, m2, y1 12 1 (by omega)]; exact g2
      · show AI τ2 88 10 = _
        rw [(y5 10 (by omega)).2]; show AI τ 88 10 = _; rw [x2 88 (by decide) (by decide)]; exact eC10
      · rw [hlen]; exact FI_q
      · rw [hlen]
        show FI τ2 1 0 = _
        rw [y1 1 0 (by omega), FI_n (Or.inl (by decide)), FI_la, FI_q]
      · intro x hx
        rcases List.mem_append.mp hx with hx | hx
        · exact hLW x hx
        · rw [List.mem_singleton.mp hx]
          exact ⟨hy40, r1.2⟩
      · rw [hlen] at hr
        by_cases w : r < LS.length
        · obtain ⟨w1, w2, w3, w4⟩ := hRow r w
          rw [getD_app0 w]
          refine ⟨?_, ?_, ?_, ?_⟩
          · show AI τ2 2 r = _
            rw [y3 2 (by decide)]; show AI (wAI τ 2 LS.length a1) 2 r = _; rw [AI_n (by omega), x4]; exact w1
          · show AI τ2 87 r = _
            rw [(y5 r (by omega)).1]; show AI τ 87 r = _; rw [x2 87 (by decide) (by decide)]; exact w2
          · refine rowC_c (x10 r _ w (Nat.le_refl _) (Nat.le_refl _) w3) (fun o a b => ?_)
            show AI τ2 o = _
            rw [y3 o (by omega)]
            funext j
            show AI (wAI τ 2 LS.length a1) o j = _
            rw [AI_n (by omega)]
          · refine y9 r _ w (Nat.le_refl _) (Nat.le_refl _) (rowM_c (σ := σ) w4 (fun o a b => ?_) ?_)
            · funext j
              show AI (wAI τ 2 LS.length a1) o j = _
              rw [AI_n (by omega), x2 o (by omega) b]
            · show AI (wAI τ 2 LS.length a1) 88 r = _
              rw [AI_n (by omega), x2 88 (by decide) (by decide)]
        · have : r = LS.length := by omega
          subst this
          rw [getD_app1]
          refine ⟨?_, ?_, ?_, ?_⟩
          · show AI τ2 2 LS.length = _
            rw [y3 2 (by decide)]; show AI (wAI τ 2 LS.length a1) 2 LS.length = _; rw [AI_q]; exact ey
          · show AI τ2 87 LS.length = _
            rw [y4]; exact ey
          · refine rowC_c rowC1 (fun o a b => ?_)
            show AI τ2 o = _
            rw [y3 o (by omega)]
            funext j
            show AI (wAI τ 2 LS.length a1) o j = _
            rw [AI_n (by omega)]
          · exact rowM_c rowM1 (fun o a b => rfl) rfl
      · rw [hAL, AL_q]
      · show FI τ2 85 0 = _
        rw [y1 85 0 (by omega)]; exact FI_q
      · show XX τ2 = _
        rw [y6]; exact x7
      · show AI τ2 999 = _
        rw [y3 999 (by decide)]
        funext j
        show AI (wAI τ 2 LS.length a1) 999 j = _
        rw [AI_n (by omega), x8]
end TE
