/-! THE PURE PROOFS: buying keeps what must be kept -/
theorem dcN_c {σ τ : PS} {y n : Nat} {k : Int32} (h1 : AI τ 105 = AI σ 105) (h2 : AI τ 106 = AI σ 106) (h3 : AI τ 107 = AI σ 107) (h4 : AI τ 108 = AI σ 108) (h5 : AI τ 109 = AI σ 109) : dcN τ y k n = dcN σ y k n := by
  have key : ∀ m s j, dclV τ m s y k j = dclV σ m s y k j := by
    intro m s j
    induction j with
    | zero => rfl
    | succ j ih => unfold dclV; rw [ih, h1, h2, h3, h4, h5]
  funext m s
  unfold dcN
  rw [key]
theorem setR_c {σ τ : PS} {n s E : Nat} (h1 : AI τ 135 = AI σ 135) (h2 : AI τ 134 = AI σ 134) (h3 : AI τ 139 = AI σ 139) (h4 : AI τ 133 = AI σ 133) : setR τ n s E = setR σ n s E ∧ opP τ = opP σ := by
  have e1 : opP τ = opP σ := by funext i; unfold opP; rw [h1]
  have e2 : opK τ = opK σ := by funext i; unfold opK; rw [h2]
  have e3 : opG τ s = opG σ s := by funext i; unfold opG; rw [h3, h4]
  refine ⟨?_, e1⟩
  unfold setR
  rw [e1, e2, e3]
/-- what buying in the class may change, with out[0] and that nothing is thrown -/
def buF (o k : Nat) : Bool := scF o k || (Nat.beq o 85 && Nat.beq k 0)
def buA (o : Nat) : Bool := scA o || Nat.beq o 32 || Nat.beq o 75 || Nat.beq o 76 || Nat.beq o 77 || Nat.beq o 145
theorem bu_sF : ∀ o k, buF o k = false → scF o k = false := fun o k h => by
  unfold buF at h
  exact (Bool.or_eq_false_iff.mp h).1
theorem bu_sA : ∀ o, buA o = false → scA o = false := fun o h => by
  unfold buA at h
  simp only [Bool.or_eq_false_iff] at h
  exact h.1.1.1.1.1
section BW
variable {σ υ : PS} {LS : List LAW} {y nW nM nS nJ nD nO nQ : Nat}
theorem bu_off {τ : PS} (h : Off σ τ) : OffG buF buA σ τ := offG_off h bu_sF bu_sA
theorem bu_cls {Y n c : Nat} {a b w v : Int32} {z : Int64} (h : Off σ υ) : OffG buF buA σ (wFI (wAL (wAI (slC υ Y a b w n) 32 c v) 145 0 z) 85 0 (nI 0)) := by
  refine offG_fi rfl (offG_al rfl (offG_ai rfl (offG_t (bu_off h) ?_)))
  exact (slC_g rfl rfl rfl n).1
theorem bu_MW {τ : PS} (hI : Inv σ) (hL : IL LS σ) (h : OffG buF buA σ τ) (hy : y ≤ 40) (eJ : FI σ 85 53 = nI nJ) (hJ : nJ ≤ 60) (eM : FI σ 85 29 = nI nM) (hM : nM ≤ 10) (eS : FI σ 85 52 = nI nS) (hS : nS ≤ 4) (eD : FI σ 85 39 = nI nD) (hD : nD ≤ 200) (eTr : FI σ 85 45 = -1) (eIs : FI σ 85 22 = nI 0) : MW τ LS y (nI nW) nM nS (dcN σ y (nI nW) nD) (fun m => b1 (sumN (dcN σ y (nI nW) nD m) 5 < numV (clL LS 5 0 y) 0)) (fun m => (inR σ m y nJ).2) := by
  obtain ⟨g0, g1, g2, g3, g4, g5, g6, g7, g8, -⟩ := hI
  have hLt := ILg (τ := τ) h rfl rfl hL
  have hDt := IDg h rfl rfl g3
  have hS2 : IS2 τ := by
    have := g4.2.1
    unfold IS2
    rw [h.1 85 53 rfl, h.1 31 1 rfl, (h.2 33 rfl).1, (h.2 34 rfl).1, (h.2 35 rfl).1, (h.2 114 rfl).1, (h.2 115 rfl).1, (h.2 116 rfl).1]
    exact this
  have hX := DM_no (y := y) (k := nI nW) hDt ((h.1 85 39 rfl).trans eD) hD ((h.1 85 45 rfl).trans eTr)
  rw [dcN_c (σ := σ) (τ := τ) (h.2 105 rfl).1 (h.2 106 rfl).1 (h.2 107 rfl).1 (h.2 108 rfl).1 (h.2 109 rfl).1] at hX
  have hMW := MW_of (σ := τ) (nJ := nJ) (M := nM) (nS := nS) (IL_M hLt ((h.1 85 22 rfl).trans eIs)) hX hS2 ((h.1 85 53 rfl).trans eJ) hJ ((h.1 85 29 rfl).trans eM) hM ((h.1 85 52 rfl).trans eS) hS hy
  have eIn : (fun m => (inR τ m y nJ).2) = fun m => (inR σ m y nJ).2 := by
    funext m
    rw [inR_c (σ := σ) (τ := τ) (h.2 114 rfl).1 (h.2 115 rfl).1 (h.2 116 rfl).1]
  rw [eIn] at hMW
  exact hMW
/-- the model's search behind the class's op -/
theorem bu_M {τ : PS} {c s o E : Nat} {d : Nat} (hd : 14 ≤ d) (hI : Inv σ) (hL : IL LS σ) (h : OffG buF buA σ τ) (hy : y ≤ 40) (hs : s < 5) (hc : c < nS) (eW : FI σ 85 1 = nI nW) (eJ : FI σ 85 53 = nI nJ) (hJ : nJ ≤ 60) (eM : FI σ 85 29 = nI nM) (hM : nM ≤ 10) (eS : FI σ 85 52 = nI nS) (hS : nS ≤ 4) (eD : FI σ 85 39 = nI nD) (hD : nD ≤ 200) (eTr : FI σ 85 45 = -1) (eIs : FI σ 85 22 = nI 0) (eo : AI σ 117 (41 * s + y) = nI o) (ho2 : o ≤ 1000000) (eQ : FI σ 85 63 = nI nQ) (hQ : nQ ≤ 100) (eO : FI σ 85 75 = nI nO) (hO : nO ≤ 12) (hE : E < 2 ^ 63) (hsh : shV (bdV (fun m => (inR σ m y nJ).2) (fun m => b1 (sumN (dcN σ y (nI nW) nD m) 5 < numV (clL LS 5 0 y) 0)) (dcN σ y (nI nW) nD) LS y nM nS o c s) (lN (ntV σ (nI c) (nI s) (nI y) (nI nW) nQ + ofV σ (nI c) (nI s) (nI y) (nI nW) nO)) = lN E) : ∃ τ', Off τ τ' ∧ FI τ' 85 83 = mSet (setR σ nO s E) ∧ FI τ' 85 84 = mPri σ nO (setR σ nO s E) ∧ Run false d 254 0 [some (.ref 85), some (.int (nI c)), some (.int (nI s)), some (.int (nI y)), none, none, none, none, none, none, none, none, none] [] τ = some (.inl (some (.int (mA6 (setR σ nO s E))), τ')) := by
  have hMW := bu_MW (nW := nW) hI hL h hy eJ hJ eM hM eS hS eD hD eTr eIs
  have g5 := IO_g h rfl rfl hI.2.2.2.2.2.1
  have g6 : IFm τ nO := by
    have := ifm_of hI.2.2.2.2.2.2.1 eO hO
    unfold IFm at this ⊢
    rw [(h.2 134 rfl).1, (h.2 135 rfl).1]
    exact this
  obtain ⟨er, ep⟩ := setR_c (σ := σ) (τ := τ) (n := nO) (s := s) (E := E) (h.2 135 rfl).1 (h.2 134 rfl).1 (h.2 139 rfl).1 (h.2 133 rfl).1
  obtain ⟨τ', q1, q2⟩ := c254 (σ := τ) (d := d) (c := c) (o := o) (q := nQ) (n := nO) (E := E) hd hy ((h.1 85 1 rfl).trans eW) hMW hs hc (by rw [(h.2 117 rfl).1]; exact eo) ho2 g5 g6 ((h.1 85 63 rfl).trans eQ) hQ ((h.1 85 75 rfl).trans eO) hO hE (by
    rw [ntV_c (σ := σ) (τ := τ) (h.2 130 rfl).1 (h.2 128 rfl).1 (h.2 132 rfl).1 (h.2 123 rfl).1 (h.2 127 rfl).1 (h.2 131 rfl).1 (h.2 129 rfl).1, ofV_c (σ := σ) (τ := τ) (h.2 139 rfl).1 (h.2 136 rfl).1 (h.2 133 rfl).1 (h.2 137 rfl).1 (h.2 138 rfl).1 (h.2 134 rfl).1]
    exact hsh)
  rw [er] at q1 q2
  refine ⟨τ', q1.1, q1.2.1, ?_, q2⟩
  have e84 := q1.2.2.1
  unfold mPri at e84 ⊢
  rw [ep] at e84
  exact e84
/-- sold on both sides -/
theorem bu_I {υ' : PS} {Y c w P : Nat} {z : Int64} (hI : Inv σ) (eO : FI σ 85 75 = nI nO) (hO : nO ≤ 12) (hc : c < 4) (ho : Off σ υ) (hu : Off (wFI (wAL (wAI (slC υ Y (nI c) (nI y) (nI w) nO) 32 c (AI σ 32 c + nI P)) 145 0 z) 85 0 (nI 0)) υ') : Inv (wAI (slM υ' Y (nI c) (nI y) (nI w) nO) 118 c (AI σ 118 c + nI P)) ∧ AL (wAI (slM υ' Y (nI c) (nI y) (nI w) nO) 118 c (AI σ 118 c + nI P)) 145 0 = z ∧ FI (wAI (slM υ' Y (nI c) (nI y) (nI w) nO) 118 c (AI σ 118 c + nI P)) 85 0 = nI 0 ∧ Kp σ (wAI (slM υ' Y (nI c) (nI y) (nI w) nO) 118 c (AI σ 118 c + nI P)) := by
  have h1 := offG_t (bu_cls (Y := Y) (n := nO) (c := c) (a := nI c) (b := nI y) (w := nI w) (v := AI σ 32 c + nI P) (z := z) ho) (bu_off hu)
  have hm := slM_g (σ := υ') (sF := buF) (sA := fun o => buA o || Nat.beq o 139 || Nat.beq o 136 || Nat.beq o 137 || Nat.beq o 138 || Nat.beq o 118) (Y := Y) (c := nI c) (y := nI y) (w := nI w) rfl rfl rfl rfl nO
  have h2 : OffG buF (fun o => buA o || Nat.beq o 139 || Nat.beq o 136 || Nat.beq o 137 || Nat.beq o 138 || Nat.beq o 118) σ υ' := ⟨h1.1, fun o q => h1.2 o (by
    simp only [Bool.or_eq_false_iff] at q
    exact q.1.1.1.1.1)⟩
  have h3 : OffG buF (fun o => buA o || Nat.beq o 139 || Nat.beq o 136 || Nat.beq o 137 || Nat.beq o 138 || Nat.beq o 118) σ (wAI (slM υ' Y (nI c) (nI y) (nI w) nO) 118 c (AI σ 118 c + nI P)) := offG_ai rfl (offG_t h2 hm.1)
  obtain ⟨g0, g1, g2, g3, ⟨gs1, gs2, gs3⟩, g5, ⟨n', i1, i2, i3, i4, i5⟩, g7, g8, LS, g9⟩ := hI
  have : nO = n' := (nI_eq (by omega) (by omega)).mp (eO.symm.trans i2)
  subst this
  -- the class's arrays in the end
  have c32 : ∀ j, AI (wAI (slM υ' Y (nI c) (nI y) (nI w) nO) 118 c (AI σ 118 c + nI P)) 32 j = if j = c then AI σ 32 c + nI P else AI σ 32 j := by
    intro j
    rw [AI_n (Or.inl (by decide)), ((slM_g (σ := υ') (sF := buF) (sA := fun o => Nat.ble 136 o && Nat.ble o 139) (Y := Y) (c := nI c) (y := nI y) (w := nI w) rfl rfl rfl rfl nO).1.2 32 rfl).1, offA hu 32 rfl, AI_ff, AI_la, AI_i]
    by_cases q : j = c
    · rw [if_pos ⟨rfl, q⟩, if_pos q]
    · rw [if_neg (by omega), if_neg q, ((slC_g (σ := υ) (sF := buF) (sA := fun o => Nat.ble 75 o && Nat.ble o 77) (Y := Y) (c := nI c) (y := nI y) (w := nI w) rfl rfl rfl nO).1.2 32 rfl).1, offA ho 32 rfl]
  have c118 : ∀ j, AI (wAI (slM υ' Y (nI c) (nI y) (nI w) nO) 118 c (AI σ 118 c + nI P)) 118 j = if j = c then AI σ 118 c + nI P else AI σ 118 j := by
    intro j
    rw [AI_i]
    by_cases q : j = c
    · rw [if_pos ⟨rfl, q⟩, if_pos q]
    · rw [if_neg (by omega), if_neg q, ((slM_g (σ := υ') (sF := buF) (sA := fun o => Nat.ble 136 o && Nat.ble o 139) (Y := Y) (c := nI c) (y := nI y) (w := nI w) rfl rfl rfl rfl nO).1.2 118 rfl).1, (h1.2 118 rfl).1]
  have c7 : ∀ o i, o = 75 ∨ o = 76 ∨ o = 77 → AI (wAI (slM υ' Y (nI c) (nI y) (nI w) nO) 118 c (AI σ 118 c + nI P)) o i = AI (slC υ Y (nI c) (nI y) (nI w) nO) o i := by
    intro o i q
    have e1 : AI (wAI (slM υ' Y (nI c) (nI y) (nI w) nO) 118 c (AI σ 118 c + nI P)) o i = AI (slM υ' Y (nI c) (nI y) (nI w) nO) o i := AI_n (Or.inl (by omega))
    have e2 : (fun o => Nat.ble 136 o && Nat.ble o 139) o = false := by rcases q with rfl | rfl | rfl <;> rfl
    have e3 : scA o = false := by rcases q with rfl | rfl | rfl <;> rfl
    rw [e1, ((slM_g (σ := υ') (sF := buF) (sA := fun o => Nat.ble 136 o && Nat.ble o 139) (Y := Y) (c := nI c) (y := nI y) (w := nI w) rfl rfl rfl rfl nO).1.2 o e2).1, offA hu o e3, AI_ff, AI_la]
    exact AI_n (Or.inl (by omega))
  have cm : ∀ o i, o = 139 ∨ o = 136 ∨ o = 137 ∨ o = 138 → AI (wAI (slM υ' Y (nI c) (nI y) (nI w) nO) 118 c (AI σ 118 c + nI P)) o i = AI (slM υ' Y (nI c) (nI y) (nI w) nO) o i := fun o i q => AI_n (Or.inl (by omega))
  have e75 : ∀ o, o = 75 ∨ o = 76 ∨ o = 77 → AI υ o = AI σ o := fun o q => offA ho o (by rcases q with rfl | rfl | rfl <;> rfl)
  have e139 : ∀ o, o = 139 ∨ o = 136 ∨ o = 137 ∨ o = 138 → AI υ' o = AI σ o := fun o q => (h1.2 o (by rcases q with rfl | rfl | rfl | rfl <;> rfl)).1
  refine ⟨⟨I0g h3 rfl g0, ITg h3 rfl rfl g1, IPg h3 rfl rfl g2, IDg h3 rfl rfl g3, ⟨?_, ?_, fun j hj => ?_⟩, IO_g h3 rfl rfl g5, ⟨nO, i1, (h3.1 85 75 rfl).trans i2, (h3.1 71 0 rfl).trans i3, fun i hi => ?_, fun i hi hi2 => ?_⟩, IMg h3 rfl rfl g7, IBg h3 rfl g8, LS, ILg h3 rfl rfl g9⟩, ?_, ?_, ?_⟩
  · rw [h3.1 85 52 rfl, h3.1 31 0 rfl]; exact gs1
  · rw [h3.1 85 53 rfl, h3.1 31 1 rfl, (h3.2 33 rfl).1, (h3.2 34 rfl).1, (h3.2 35 rfl).1, (h3.2 114 rfl).1, (h3.2 115 rfl).1, (h3.2 116 rfl).1]; exact gs2
  · rw [c32, c118, gs3 j hj, gs3 c hc]
  · obtain ⟨f1, f2, f3, f4, f5, f6, f7⟩ := i4 i hi
    rw [(h3.2 72 rfl).1, (h3.2 133 rfl).1, (h3.2 73 rfl).1, (h3.2 134 rfl).1, (h3.2 74 rfl).1, (h3.2 135 rfl).1]
    refine ⟨f1, f2, f3, f4, f5, f6, ?_⟩
    obtain ⟨a1, a2, a3⟩ := slC_i (σ := υ) (Y := Y) (i := i) (c := nI c) (y := nI y) (w := nI w) nO
    obtain ⟨b1, b2, b3, b4⟩ := slM_i (σ := υ') (Y := Y) (i := i) (c := nI c) (y := nI y) (w := nI w) nO
    rw [cm 139 i (by omega), cm 136 i (by omega), cm 137 i (by omega), cm 138 i (by omega), c7 75 i (by omega), c7 76 i (by omega), c7 77 i (by omega), a1, a2, a3, b1, b2, b3, b4, e75 75 (by omega), e75 76 (by omega), e75 77 (by omega), e139 139 (by omega), e139 136 (by omega), e139 137 (by omega), e139 138 (by omega)]
    by_cases q : bt Y i ≠ 0
    · have qq : i < nO ∧ bt Y i ≠ 0 := ⟨hi, q⟩
      rw [if_pos qq, if_pos qq, if_pos qq, if_pos qq, if_pos qq, if_pos qq, if_pos qq]
      exact Or.inr ⟨rfl, rfl, ix_nI hc, rfl, rfl⟩
    · have qq : ¬ (i < nO ∧ bt Y i ≠ 0) := fun w => q w.2
      rw [if_neg qq, if_neg qq, if_neg qq, if_neg qq, if_neg qq, if_neg qq, if_neg qq]
      exact f7
  · obtain ⟨b1, -⟩ := slM_i (σ := υ') (Y := Y) (i := i) (c := nI c) (y := nI y) (w := nI w) nO
    rw [cm 139 i (by omega), b1, if_neg (fun w => by omega), e139 139 (by omega)]
    exact i5 i hi hi2
  · show AL (slM υ' Y (nI c) (nI y) (nI w) nO) 145 0 = z
    rw [hm.2.2.2.1, offB hu 145 rfl]
    show AL (wAL _ 145 0 z) 145 0 = z
    exact AL_q
  · show FI (slM υ' Y (nI c) (nI y) (nI w) nO) 85 0 = nI 0
    rw [hm.2.1, offF hu 85 0 rfl, FI_q]
  · refine Kp_eq ?_ ((h3.2 999 rfl).1)
    show XX (slM υ' Y (nI c) (nI y) (nI w) nO) = XX σ
    rw [hm.2.2.2.2, hu.1]
    show XX (slC υ Y (nI c) (nI y) (nI w) nO) = XX σ
    rw [(slC_g (σ := υ) (sF := buF) (sA := buA) (Y := Y) (c := nI c) (y := nI y) (w := nI w) rfl rfl rfl nO).2.2.2.2, ho.1]
end BW
