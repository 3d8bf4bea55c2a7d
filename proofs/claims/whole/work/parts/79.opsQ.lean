/-! THE PURE PROOFS: the op tried -/
section TF
variable {B : Nat → Nat} {N q d r c u n : Nat} {σ τ υ : PS}
theorem dcN_g {y n : Nat} {k : Int32} (h : OffG sFt sAt σ τ) : dcN τ y k n = dcN σ y k n := by
  funext m s
  unfold dcN
  rw [dcl_eq (h.2 105 rfl).1 (h.2 106 rfl).1 (h.2 107 rfl).1 (h.2 108 rfl).1 (h.2 109 rfl).1]
theorem feV_g {o : Nat → Option CLS} {y M m n least : Nat} {dec : Nat → Nat → Nat} (h : OffG sFt sAt σ τ) : feV τ o y M m n least dec = feV σ o y M m n least dec := feV_c (h.2 97 rfl).1 (h.2 98 rfl).1 (h.2 99 rfl).1 (h.2 100 rfl).1
/-- where the class may end -/
def TrC (LS : List LAW) (σ σ1 : PS) (f : Int32) : Prop := OffG sFt sAt σ σ1 ∧ FI σ1 12 0 = nI 0 ∧ FI σ1 12 1 = f ∧ FI σ1 1 0 = nI LS.length ∧ (∀ k, scF 85 k = false → FI σ1 85 k = FI σ 85 k) ∧ (∀ r, r < LS.length → AI σ1 2 r = nI (LS.getD r (0, [])).1 ∧ rowC σ1 r (LS.getD r (0, [])).2) ∧ (∀ o, 87 ≤ o → o ≤ 95 → AI σ1 o = AI σ o) ∧ AI σ1 86 = AI σ 86 ∧ XX σ1 = XX σ ∧ AI σ1 999 = AI σ 999
/-- where the model may end, its row apart -/
def TrM (τ2 ρ : PS) (f : Int32) : Prop := OffG sFt sAt τ2 ρ ∧ FI ρ 85 22 = nI 0 ∧ FI ρ 85 11 = f ∧ (∀ o k, skF o k = false → ¬ (o = 85 ∧ (k = 22 ∨ k = 11)) → FI ρ o k = FI τ2 o k) ∧ (∀ o, skA o = false → AI ρ o = AI τ2 o) ∧ (∀ o, AL ρ o = AL τ2 o) ∧ XX ρ = XX τ2
theorem tr_fin {LS : List LAW} {σ1 τ2 ρ : PS} {f y : Int32} {z : Int64} (hI : Inv σ) (hIL : IL LS σ) (h : TrC LS σ σ1 f) (m1 : MK 10 (16 * 10) (400 * 10) (m0 10 N y (wFI (wAL σ1 145 0 z) 85 0 (nI 0))) τ2) (hs : TrM τ2 ρ f) : Inv (wAI ρ 88 10 (nI 0)) ∧ AL (wAI ρ 88 10 (nI 0)) 145 0 = z ∧ FI (wAI ρ 88 10 (nI 0)) 85 0 = nI 0 ∧ Kp σ (wAI ρ 88 10 (nI 0)) := by
  obtain ⟨hL, e10, eC, hLW, hRow⟩ := hIL
  obtain ⟨c1, c2, c3, c4, c5, c6, c7, c8, c9, c10⟩ := h
  obtain ⟨y1, y2, y3, y4, y5, y6, y7, y8, y9⟩ := ctx_m m1
  obtain ⟨s1, s2, s3, hF, hA, s6, s7⟩ := hs
  have hOG : OffG sFt sAt σ (wAI ρ 88 10 (nI 0)) := offG_ai rfl (offG_t (offG_t (offG_t c1 (offG_fi rfl (offG_al rfl offG_r))) y8) s1)
  refine ⟨inv_txt (LS := LS) hI hOG s2 ?_ ?_ ?_ AI_q ⟨hL, ?_, ?_, hLW, fun r hr => ?_⟩, ?_, ?_, Kp_eq ?_ ?_⟩
  · show FI ρ 85 2 = _
    rw [hF 85 2 rfl (by omega)]; exact y2
  · show FI ρ 12 0 = _
    rw [hF 12 0 rfl (by omega), y1 12 0 (by omega)]; exact c2
  · show FI ρ 12 1 = FI ρ 85 11
    rw [hF 12 1 rfl (by omega), y1 12 1 (by omega), s3]; exact c3
  · show FI ρ 85 10 = _
    rw [hF 85 10 rfl (by omega), y1 85 10 (by omega)]; exact (c5 10 rfl).trans e10
  · show FI ρ 1 0 = _
    rw [hF 1 0 rfl (by omega), y1 1 0 (by omega)]; exact c4
  · obtain ⟨w1, w2, w3, w4⟩ := hRow r hr
    obtain ⟨w5, w6⟩ := c6 r hr
    refine ⟨?_, ?_, ?_, ?_⟩
    · rw [AI_n (by omega), hA 2 rfl, y3 2 (by decide)]; exact w5
    · rw [AI_n (by omega), hA 87 rfl, (y5 r (by omega)).1]; show AI σ1 87 r = _; rw [c7 87 (by decide) (by decide)]; exact w2
    · refine rowC_c w6 (fun o a b => ?_)
      have : o = 3 ∨ o = 4 ∨ o = 5 ∨ o = 6 ∨ o = 7 ∨ o = 8 ∨ o = 9 := by omega
      funext j
      rw [AI_n (by omega), hA o (by rcases this with rfl | rfl | rfl | rfl | rfl | rfl | rfl <;> rfl), y3 o (by omega)]
      rfl
    · have w7 := y9 r _ (show r < 10 by omega) (Nat.le_refl _) (Nat.le_refl _) (rowM_c (σ := σ) w4 (fun o a b => c7 o (by omega) b) (by show AI σ1 88 r = _; rw [c7 88 (by decide) (by decide)]))
      refine rowM_c w7 (fun o a b => ?_) ?_
      · have : o = 89 ∨ o = 90 ∨ o = 91 ∨ o = 92 ∨ o = 93 ∨ o = 94 ∨ o = 95 := by omega
        funext j
        rw [AI_n (by omega), hA o (by rcases this with rfl | rfl | rfl | rfl | rfl | rfl | rfl <;> rfl)]
      · rw [AI_n (by omega), hA 88 rfl]
  · show AL ρ 145 0 = z
    rw [s6 145, y7]; exact AL_q
  · show FI ρ 85 0 = _
    rw [hF 85 0 rfl (by omega), y1 85 0 (by omega)]; exact FI_q
  · show XX ρ = _
    rw [s7, y6]; exact c9
  · funext j
    rw [AI_n (by omega), hA 999 rfl, y3 999 (by decide)]
    show AI σ1 999 j = _
    rw [c10]
set_option maxHeartbeats 1000000 in
theorem op_tried (hI : Inv σ) (a1 a2 a3 : Int32) : OpD 64 (fun d σ => Run false d 19 0 [some (.ref 0), some (.int a1), some (.int a2), some (.int a3), none, none, none] [] σ) (fun d σ => Run false d 227 0 [some (.ref 85), some (.int a1), some (.int a2), some (.int a3), none, none] [] σ) σ isL (fun E => if E = 4 then 1 else if E = 1 then 2 else 0) := by
  have dU0 : dU 0 = 38 := rfl
  have hI0 := hI
  obtain ⟨⟨⟨nW, hW, eW, eWc⟩, ⟨nM, hM, eM, eMc⟩, eTr, eIs⟩, ⟨⟨nB, hB, eB, eBc, hBy⟩, eFa, eC10⟩, hPP, hDD, hSS, -, -, -, -, LS, hIL⟩ := hI
  by_cases h0 : IX nM a1
  case neg =>
    refine opD_of (opE_of hI0 4 1 (.long (lN 0)) ⟨_, rfl⟩ (by decide) rfl (by decide) (fun d => ?_) (fun d => ?_)) (by decide)
    · show Run false (d + 39 + 1) 19 0 _ [] σ = _
      rw [s19_0, c48_f (by omega) eMc h0 (by omega), aft_x rfl]
    · show Run false (d + 39 + 1) 227 0 _ [] (thF σ) = _
      rw [s227_0, c206_f (by omega) (show FI (wFI (thF σ) 85 0 (nI 0)) 85 29 = nI nM from eM) FI_q h0 (by omega), aft_v, s227_10, z00, cond_true]
  by_cases h1 : IR 0 40 a2
  case neg =>
    refine opD_of (opE_of hI0 1 2 (.long (lN 0)) ⟨_, rfl⟩ (by decide) rfl (by decide) (fun d => ?_) (fun d => ?_)) (by decide)
    · show Run false (d + 39 + 1) 19 0 _ [] σ = _
      rw [s19_0, c48_t (by omega) eMc h0 (by omega), aft_n, s19_5, c43_f (by omega) h1, aft_x rfl]
    · show Run false (d + 39 + 1) 227 0 _ [] (thF σ) = _
      rw [s227_0, c206_t (by omega) (show FI (wFI (thF σ) 85 0 (nI 0)) 85 29 = nI nM from eM) FI_q h0 (by omega), aft_v, s227_10, z10, cond_false, c170_f (by omega) h1, aft_v, s227_18, z00, cond_true, c165_f (by omega) FI_q nI_20, aft_v, s227_42, z00, cond_true]
  by_cases h2 : IR 0 nB a3
  case neg =>
    refine opD_of (opE_of hI0 1 2 (.long (lN 0)) ⟨_, rfl⟩ (by decide) rfl (by decide) (fun d => ?_) (fun d => ?_)) (by decide)
    · show Run false (d + 39 + 1) 19 0 _ [] σ = _
      rw [s19_0, c48_t (by omega) eMc h0 (by omega), aft_n, s19_5, c43_t (by omega) h1, aft_n, s19_9, c47_f (by omega) eBc h2 (by omega), aft_x rfl]
    · show Run false (d + 39 + 1) 227 0 _ [] (thF σ) = _
      have e2 : FI (wFI (thF σ) 85 0 (nI 0)) 85 2 = nI nB := eB
      rw [s227_0, c206_t (by omega) (show FI (wFI (thF σ) 85 0 (nI 0)) 85 29 = nI nM from eM) FI_q h0 (by omega), aft_v, s227_10, z10, cond_false, c170_t (by omega) h1, aft_v, s227_18, z10, cond_false, e2, c165_f (by omega) FI_q nI_20, aft_v, s227_42, z00, cond_true]
      by_cases w : a3 < nI 0
      · rw [obl_t w, cond_true]
      · by_cases v : nI nB < a3
        · rw [obl_f w, cond_false, obl_t v, cond_true]
        · exact absurd ((ir_iff2 (by decide) (by omega)).mp ⟨w, v⟩) h2
  obtain ⟨n, -, hn, rfl⟩ := id h2
  obtain ⟨m, hm, rfl⟩ := id h0
  obtain ⟨y, -, hy, rfl⟩ := id h1
  obtain ⟨B, hBv, hB255⟩ : ∃ B : Nat → Nat, (∀ j, j < n → AI σ 86 j = nI (B j) ∧ AI σ 13 j = nI (B j)) ∧ ∀ j, j < n → B j ≤ 255 := by
    refine ⟨fun j => (AI σ 86 j).toNatClampNeg, fun j hj => ?_, fun j hj => ?_⟩
    · obtain ⟨x1, b, -, x2, x3⟩ := hBy j (by omega)
      show AI σ 86 j = nI (AI σ 86 j).toNatClampNeg ∧ AI σ 13 j = nI (AI σ 86 j).toNatClampNeg
      rw [x1, x3, nI_clamp (by omega)]
      exact ⟨rfl, rfl⟩
    · obtain ⟨-, b, -, x2, x3⟩ := hBy j (by omega)
      show (AI σ 86 j).toNatClampNeg ≤ 255
      rw [x3, nI_clamp (by omega)]; exact x2
  have hIL0 := hIL
  obtain ⟨hL, e10, eC, hLW, hRow⟩ := hIL
  obtain ⟨res, r1, r2, r3⟩ := text_ok (B := B) (N := n) (by omega) hB255
  intro d e hd he
  obtain ⟨d, rfl⟩ : ∃ z, d = z + 4 := ⟨d - 4, by omega⟩
  obtain ⟨e, rfl⟩ : ∃ z, e = z + 4 := ⟨e - 4, by omega⟩
  obtain ⟨υ, τ, o1, g1, g2⟩ := r2 (d + 3) LS.length σ (by omega) (by omega) eC (fun j hj => (hBv j hj).2)
  obtain ⟨x1, x2, x3, x4, x5, x6, x7, x8, x9, x10⟩ := ctx_c o1 g1
  have pC : Run false (d + 4) 19 0 [some (.ref 0), some (.int (nI m)), some (.int (nI y)), some (.int (nI n)), none, none, none] [] σ = aft false (d + 3 + 1) 19 22 [some (.ref 0), some (.int (nI m)), some (.int (nI y)), some (.int (nI n)), none, none, none] [] (Run false (d + 3) 133 0 [some (.ref 12), some (.int (nI n)), none] [] σ) := by
    show Run false (d + 3 + 1) 19 0 _ [] σ = _
    rw [s19_0, c48_t (by omega) eMc h0 (by omega), aft_n, s19_5, c43_t (by omega) h1, aft_n, s19_9, c47_t (by omega) eBc h2 (by omega), aft_n, s19_14]
  have pM : ∀ ρ, FI ρ 85 2 = nI nB → FI ρ 85 29 = nI nM → AI ρ 86 = AI σ 86 → ∃ τ2, MK 10 (16 * 10) (400 * 10) (m0 10 n (nI y) (wFI ρ 85 0 (nI 0))) τ2 ∧ ∃ x, rtM 10 0 τ2 x res ∧ Run false (e + 4) 227 0 [some (.ref 85), some (.int (nI m)), some (.int (nI y)), some (.int (nI n)), none, none] [] ρ = aft false (e + 4) 227 55 [some (.ref 85), some (.int (nI m)), some (.int (nI y)), some (.int (nI n)), none, none] [] x := fun ρ h3 h5 h4 => by
    obtain ⟨τ2, m1, m2⟩ := r3 (e + 3) 10 (nI y) (wFI ρ 85 0 (nI 0)) (by omega) (by omega) (fun j hj => by rw [AI_ff, h4]; exact (hBv j hj).1)
    refine ⟨τ2, m1, _, m2, ?_⟩
    have e2 : FI (wFI ρ 85 0 (nI 0)) 85 2 = nI nB := h3
    show Run false (e + 3 + 1) 227 0 _ [] ρ = _
    rw [s227_0, c206_t (by omega) (show FI (wFI ρ 85 0 (nI 0)) 85 29 = nI nM from h5) FI_q h0 (by omega), aft_v, s227_10, z10, cond_false, c170_t (by omega) h1, aft_v, s227_18, z10, cond_false, e2, oltF (Nat.zero_le _) (by omega), cond_false, oltF hn (by omega), cond_false, c165_t (by omega) FI_q, aft_v, s227_42, z10, cond_false]
  refine Or.inl ?_
  have rowsT : ∀ r, r < LS.length → AI τ 2 r = nI (LS.getD r (0, [])).1 ∧ rowC τ r (LS.getD r (0, [])).2 := fun r hr => by
    obtain ⟨w1, w2, w3, w4⟩ := hRow r hr
    exact ⟨by rw [x4]; exact w1, x10 r _ hr (Nat.le_refl _) (Nat.le_refl _) w3⟩
  cases res with
  | inr kp =>
    obtain ⟨k, p⟩ := kp
    obtain ⟨g2, g3⟩ := g2
    have hT : TrC LS σ τ (nI p) := ⟨x9, x6, g2, x5.trans eC, x1, rowsT, x2, x3, x7, x8⟩
    refine ⟨.long ((nI k - nI 10).toInt64), τ, ⟨_, rfl⟩, ?_, fun z => ?_⟩
    · show Run false (d + 4) 19 0 _ [] σ = _
      have := r1.1
      have := r1.2.1
      rw [pC, g3, aft_v, s19_22, oeqF (by omega) (by omega) (by decide), cond_false]
    · obtain ⟨τ2, m1, x, ⟨m2, m3, m4⟩, m5⟩ := pM (wAL τ 145 0 z) ((x1 2 rfl).trans eB) ((x1 29 rfl).trans eM) x3
      have e22 : FI (wFI τ2 85 11 (FI τ2 85 5)) 85 22 = nI 0 := by
        rw [FI_n (by omega), (ctx_m m1).1 85 22 (by omega)]; exact (x1 22 rfl).trans eIs
      obtain ⟨i1, i2, i3, i4⟩ := tr_fin (ρ := wFI τ2 85 11 (FI τ2 85 5)) hI0 hIL0 hT m1 ⟨offG_fi rfl offG_r, e22, FI_q.trans m2, fun o k a b => FI_n (by omega), fun o a => rfl, fun o => rfl, rfl⟩
      refine ⟨wAI (wFI τ2 85 11 (FI τ2 85 5)) 88 10 (nI 0), ?_, i1, i2, i3, i4⟩
      show Run false (e + 4) 227 0 _ [] (wAL τ 145 0 z) = _
      have m3' : FI (wFI τ2 85 11 (FI τ2 85 5)) 85 6 = nI k := by rw [FI_n (by omega)]; exact m3
      rw [m5, m4, aft_v, s227_55, z00, cond_true, inbT (by decide) (by decide), cond_true, nI_clamp (by omega), m3']
  | inl cs =>
    have rowC1 := rtC_row g2 r1
    obtain ⟨g2, -, -, g3⟩ := g2
    have hlen : (LS ++ [(y, cs)]).length = LS.length + 1 := by rw [List.length_append]; rfl
    have h16 : ∀ r, r < LS.length → (LS.getD r (0, [])).2.length ≤ 16 := fun r hr => (hRow r hr).2.2.1.1
    -- the class, kept
    have k0 : OffG sFt sAt σ (wFI (wAI τ 2 LS.length (nI y)) 1 0 (nI (LS.length + 1))) := offG_fi rfl (offG_ai rfl x9)
    have kC : LC (LS ++ [(y, cs)]) (wFI (wAI τ 2 LS.length (nI y)) 1 0 (nI (LS.length + 1))) := by
      refine ⟨by omega, by rw [hlen]; exact FI_q, fun r hr => ?_, fun r hr => ?_⟩
      · rw [hlen] at hr
        by_cases w : r < LS.length
        · rw [getD_app0 w]; exact hLW _ (getD_mem w)
        · have : r = LS.length := by omega
          subst this
          rw [getD_app1]; exact ⟨hy, r1.2⟩
      · rw [hlen] at hr
        have hc : ∀ o, 3 ≤ o → o ≤ 9 → AI (wFI (wAI τ 2 LS.length (nI y)) 1 0 (nI (LS.length + 1))) o = AI τ o := fun o a b => by
          funext j
          rw [AI_ff, AI_n (by omega)]
        by_cases w : r < LS.length
        · rw [getD_app0 w]
          refine ⟨?_, rowC_c (rowsT r w).2 hc⟩
          rw [AI_ff, AI_n (by omega)]; exact (rowsT r w).1
        · have : r = LS.length := by omega
          subst this
          rw [getD_app1]
          exact ⟨AI_q, rowC_c rowC1 hc⟩
    obtain ⟨⟨nP, hP, eP, ePc, -⟩, -⟩ := id hPP
    obtain ⟨nD, hD, eD, eDc, -⟩ := id hDD
    obtain ⟨-, ⟨nJ, hJ, eJ, eJc, -⟩, -⟩ := id hSS
    obtain ⟨υc, o2, o3⟩ := c56 (d := d + 3) (k := nI nW) (m := m) (M := nM) (by omega) hy kC (IPg k0 rfl rfl hPP) ((k0.1 17 0 rfl).trans ePc) hP hm (IDg k0 rfl rfl hDD) ((k0.1 26 0 rfl).trans eDc) hD (ISg k0 rfl rfl hSS) ((k0.1 31 1 rfl).trans eJc) hJ ((k0.1 0 1 rfl).trans eMc) hM
    rw [feV_g k0, dcN_g k0] at o3
    have eUC : FI υc 1 0 = nI (LS.length + 1) := (offF o2 1 0 rfl).trans FI_q
    have hT : TrC LS σ (wFI υc 1 0 (nI LS.length)) (-1) := by
      refine ⟨offG_fi rfl (offG_t k0 (fT_off o2)), ?_, ?_, FI_q, fun k hk => ?_, fun r hr => ⟨?_, ?_⟩, fun o a b => ?_, ?_, ?_, ?_⟩
      · rw [FI_n (by omega), offF o2 12 0 rfl, FI_n (by omega), FI_aa]; exact x6
      · rw [FI_n (by omega), offF o2 12 1 rfl, FI_n (by omega), FI_aa]; exact g2
      · rw [FI_n (by omega), offF o2 85 k hk, FI_n (by omega), FI_aa]; exact x1 k hk
      · rw [AI_ff, offA o2 2 rfl, AI_ff, AI_n (by omega)]; exact (rowsT r hr).1
      · refine rowC_c (rowsT r hr).2 (fun o a b => ?_)
        have : o = 3 ∨ o = 4 ∨ o = 5 ∨ o = 6 ∨ o = 7 ∨ o = 8 ∨ o = 9 := by omega
        funext j
        rw [AI_ff, offA o2 o (by rcases this with rfl | rfl | rfl | rfl | rfl | rfl | rfl <;> rfl), AI_ff, AI_n (by omega)]
      · have : o = 87 ∨ o = 88 ∨ o = 89 ∨ o = 90 ∨ o = 91 ∨ o = 92 ∨ o = 93 ∨ o = 94 ∨ o = 95 := by omega
        funext j
        rw [AI_ff, offA o2 o (by rcases this with rfl | rfl | rfl | rfl | rfl | rfl | rfl | rfl | rfl <;> rfl), AI_ff, AI_n (by omega), x2 o a b]
      · funext j
        rw [AI_ff, offA o2 86 rfl, AI_ff, AI_n (by omega), x3]
      · show XX υc = _
        rw [o2.1]; exact x7
      · funext j
        rw [AI_ff, offA o2 999 rfl, AI_ff, AI_n (by omega), x8]
    refine ⟨.long (lN (feV σ (fun s => clL (LS ++ [(y, cs)]) 0 s y) y nM m nP (numV (clL (LS ++ [(y, cs)]) 5 0 y) 0) (dcN σ y (nI nW) nD))), wFI υc 1 0 (nI LS.length), ⟨_, rfl⟩, ?_, fun z => ?_⟩
    · show Run false (d + 4) 19 0 _ [] σ = _
      have eW1 : FI (wFI (wAI τ 2 LS.length (nI y)) 1 0 (nI (LS.length + 1))) 0 0 = nI nW := (k0.1 0 0 rfl).trans eWc
      rw [pC, g3, aft_v, s19_22, z00, cond_true, s97_0, x5, eC, oltT (by omega) (by decide), cond_true, inbT (by omega) (by decide), cond_true, nI_clamp (by omega), nI_pm, aft_v, nI_add, s19_44, eW1, o3, aft_v, s19_55, s98_0, eUC, oleF (by omega) (by omega), cond_false, nI_s1, aft_n, s19_64]
    · have cT := hT
      obtain ⟨c1, c2, c3, c4, c5, c6, c7, c8, c9, c10⟩ := cT
      obtain ⟨τ2, m1, x, m4, m5⟩ := pM (wAL (wFI υc 1 0 (nI LS.length)) 145 0 z) ((c5 2 rfl).trans eB) ((c5 29 rfl).trans eM) c8
      have rowM1 := rtM_row m4 r1
      obtain ⟨m2, -, -, m4⟩ := m4
      obtain ⟨y1, y2, y3, y4, y5, y6, y7, y8, y9⟩ := ctx_m m1
      have q0 : OffG sFt sAt σ (wFI (wFI τ2 85 11 (FI τ2 85 5)) 85 22 (nI 1)) := offG_fi rfl (offG_fi rfl (offG_t (offG_t c1 (offG_fi rfl (offG_al rfl offG_r))) y8))
      have qM : LM LS (some cs) (wFI (wFI τ2 85 11 (FI τ2 85 5)) 85 22 (nI 1)) := by
        refine ⟨hL, ?_, fun r hr => hLW _ (getD_mem hr), fun r hr => ?_, FI_q, rowM1, r1.2⟩
        · show FI τ2 85 10 = _
          rw [y1 85 10 (by omega)]; exact (c5 10 rfl).trans e10
        · obtain ⟨w1, w2, w3, w4⟩ := hRow r hr
          refine ⟨?_, y9 r _ (show r < 10 by omega) (Nat.le_refl _) (Nat.le_refl _) (rowM_c (σ := σ) w4 (fun o a b => c7 o (by omega) b) (by show AI (wFI υc 1 0 (nI LS.length)) 88 r = _; rw [c7 88 (by decide) (by decide)]))⟩
          show AI τ2 87 r = _
          rw [(y5 r (by omega)).1]; show AI (wFI υc 1 0 (nI LS.length)) 87 r = _; rw [c7 87 (by decide) (by decide)]; exact w2
      have hD1 : ID (wFI (wFI τ2 85 11 (FI τ2 85 5)) 85 22 (nI 1)) := IDg q0 rfl rfl hDD
      have hX := DM_no (y := y) (k := nI nW) hD1 ((q0.1 85 39 rfl).trans eD) hD ((q0.1 85 45 rfl).trans eTr)
      rw [dcN_g q0] at hX
      obtain ⟨τ3, p1, p2⟩ := c224 (d := e + 3) (k := nI nW) (n := nP) (M := nM) (m := m) (by omega) hy qM (DM_w hX hM) ((q0.1 85 30 rfl).trans eP) hP (mk5 (IPg q0 rfl rfl hPP) hP) hm ((q0.1 85 29 rfl).trans eM) hM
      rw [feV_g q0, ← clF_X h16 (by have := r1.1; omega)] at p2
      have eX : (fun s => clX LS (some cs) 0 s y) = (fun s => clL (LS ++ [(y, cs)]) 0 s y) := funext fun s => (clF_X h16 (by have := r1.1; omega)).symm
      rw [eX] at p2
      have hs : TrM τ2 (wFI τ3 85 22 (nI 0)) (-1) := by
        refine ⟨offG_fi rfl (offG_t (offG_fi rfl (offG_fi rfl offG_r)) (fT_off (stk_off p1))), FI_q, ?_, fun o k a b => ?_, fun o a => ?_, fun o => ?_, ?_⟩
        · rw [FI_n (by omega), stkF p1 85 11 rfl, FI_n (by omega), FI_q]; exact m2
        · rw [FI_n (by omega), stkF p1 o k a, FI_n (by omega), FI_n (by omega)]
        · show AI τ3 o = _
          rw [stkA p1 o a]; rfl
        · show AL τ3 o = _
          rw [stkB p1 o]; rfl
        · show XX τ3 = _
          rw [p1.1]; rfl
      obtain ⟨i1, i2, i3, i4⟩ := tr_fin hI0 hIL0 hT m1 hs
      refine ⟨wAI (wFI τ3 85 22 (nI 0)) 88 10 (nI 0), ?_, i1, i2, i3, i4⟩
      have eW2 : FI (wFI τ2 85 11 (FI τ2 85 5)) 85 1 = nI nW := (q0.1 85 1 rfl).trans eW
      show Run false (e + 4) 227 0 _ [] (wAL (wFI υc 1 0 (nI LS.length)) 145 0 z) = _
      rw [m5, m4, aft_v, s227_55, z10, cond_false, is01_1, cond_true, eW2, p2, aft_v, s227_90, is01_0, cond_true, inbT (by decide) (by decide), cond_true, nI_clamp (by omega)]
end TF
