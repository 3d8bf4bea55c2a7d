/-! THE PURE PROOFS: the reader called -/
def fgt (σ : PS) : PS := wFI (wFI (wFI σ 12 0 (nI 0)) 12 2 (nI 0)) 12 1 (-1)
def m0 (r N : Nat) (y : Int32) (σ : PS) : PS := wFI (wFI (wFI (wFI (wFI (wAI (wAI (wFI (wFI σ 85 2 (nI 0)) 85 9 (nI r)) 87 r y) 88 r (nI 0)) 85 3 (nI N)) 85 4 (nI 0)) 85 5 (-1)) 85 7 (nI 0)) 85 8 (nI 0)
def TCl (B : Nat → Nat) (N : Nat) (res : RTx) : Prop := ∀ d r σ, dU 0 + 8 ≤ d → r ≤ 10 → FI σ 1 0 = nI r → (∀ j, j < N → AI σ 13 j = nI (B j)) → ∃ υ τ, Off (fgt σ) υ ∧ KF r (16 * r) (400 * r) υ τ ∧ rtC r 0 τ (Run false d 133 0 [some (.ref 12), some (.int (nI N)), none] [] σ) res
def TMl (B : Nat → Nat) (N : Nat) (res : RTx) : Prop := ∀ d r y σ, dU 0 + 8 ≤ d → r ≤ 10 → (∀ j, j < N → AI σ 86 j = nI (B j)) → ∃ τ, MK r (16 * r) (400 * r) (m0 r N y σ) τ ∧ rtM r 0 τ (Run false d 196 0 [some (.ref 85), some (.int (nI r)), some (.int y), some (.int (nI N))] [] σ) res
section TD
variable {B : Nat → Nat} {N q d r n : Nat} {σ τ υ : PS}
theorem text_ok (hN : N ≤ 400) (hB : ∀ j, j < N → B j ≤ 255) : ∃ res, rtP N 0 res ∧ TCl B N res ∧ TMl B N res := by
  have dU0 : dU 0 = 38 := rfl
  obtain ⟨res, h1, h2, h3⟩ := text_lp hN hB 16 0 (tpN B N 0) rfl (tp_le 0)
  refine ⟨res, h1, ?_, ?_⟩
  · intro d r σ hd hr h0 hC
    obtain ⟨d, rfl⟩ := dS (show 1 ≤ d by omega)
    obtain ⟨e, rfl⟩ := dS (show 1 ≤ d by omega)
    obtain ⟨υ, T, o1, o2, o3, o4, o5, o6, o7⟩ := c134 (σ := fgt σ) (d := e + 1) (by omega) hN hC hB
    have e1 : FI υ 1 0 = nI r := (offF o1 1 0 rfl).trans h0
    have e2 : FI υ 12 1 = -1 := (offF o1 12 1 rfl).trans FI_q
    obtain ⟨t1, t2, t3⟩ := o6 0 (Nat.succ_pos T)
    let υ' : PS := wFI (wFI (wFI (wAI (wFI υ 1 1 (nI (r * 400))) 3 r (nI 0)) 12 4 (nI 0)) 12 5 (AI υ 14 0)) 12 6 (AI υ 16 0)
    have k1 : KF r (16 * r) (400 * r) υ υ' := by
      refine ⟨fun o k a b => ?_, rfl, rfl, rfl, fun o a => ?_, fun o j a b c => ?_, fun j a => ?_, fun j a => ?_⟩
      · show FI (wFI (wFI (wFI (wAI (wFI υ 1 1 (nI (r * 400))) 3 r (nI 0)) 12 4 (nI 0)) 12 5 (AI υ 14 0)) 12 6 (AI υ 16 0)) o k = _
        rw [FI_n (by omega), FI_n (by omega), FI_n (by omega), FI_aa, FI_n (by omega)]
      · funext j
        show AI (wAI (wFI υ 1 1 (nI (r * 400))) 3 r (nI 0)) o j = _
        rw [AI_n (by omega), AI_ff]
      · show AI (wAI (wFI υ 1 1 (nI (r * 400))) 3 r (nI 0)) o j = _
        rw [AI_n (by omega), AI_ff]
      · show AI (wAI (wFI υ 1 1 (nI (r * 400))) 3 r (nI 0)) 9 j = _
        rw [AI_n (by omega), AI_ff]
      · show AI (wAI (wFI υ 1 1 (nI (r * 400))) 3 r (nI 0)) 3 j = _
        rw [AI_n (by omega), AI_ff]
    have p0 : Run false (e + 1 + 1) 133 0 [some (.ref 12), some (.int (nI N)), none] [] σ = Run false (e + 1 + 1) 133 51 [some (.ref 12), some (.int (nI N)), some (.int (nI 0))] [] υ' := by
      rw [s133_0, s132_0, aft_n, s133_4, if_neg (show ¬ nI 400 < nI N from nI_nlt hN (by decide))]
      have o8 : Run false (e + 1) 134 0 [some (.ref 12), some (.int (nI N)), none, none, none] [] (wFI (wFI (wFI σ 12 0 (nI 0)) 12 2 (nI 0)) 12 1 (-1)) = some (.inl (none, υ)) := o7
      rw [o8, aft_n, s133_17, s92_0, e1, oleF (by omega) (by omega), cond_false, inbT (by omega) (by decide), cond_true, nI_clamp (by omega), nI_mul, aft_n, s133_24, inbT (by decide) (by decide), cond_true, cond_true]
      rfl
    have e3 : CAw B N (400 * r + 0) (tpN B N 0) υ' := by
      refine ⟨T, 0, toks_kf ⟨o2, o3, o4, o5, o6⟩ k1, Nat.zero_le _, rfl, ?_, ?_, ?_, ?_, ?_⟩
      · show FI (wFI (wFI (wFI _ 12 4 (nI 0)) 12 5 _) 12 6 _) 12 4 = _
        rw [FI_n (by omega), FI_n (by omega), FI_q]
      · show FI (wFI (wFI _ 12 5 (AI υ 14 0)) 12 6 _) 12 5 = _
        rw [FI_n (by omega), FI_q]; exact t1
      · show FI (wFI _ 12 6 (AI υ 16 0)) 12 6 = _
        rw [FI_q]; exact t3
      · show FI (wFI (wFI (wFI (wAI (wFI υ 1 1 (nI (r * 400))) 3 r (nI 0)) 12 4 (nI 0)) 12 5 (AI υ 14 0)) 12 6 (AI υ 16 0)) 1 1 = _
        rw [FI_n (by omega), FI_n (by omega), FI_n (by omega), FI_aa, FI_q, show r * 400 = 400 * r + 0 by omega]
      · show FI (wFI (wFI (wFI (wAI (wFI υ 1 1 (nI (r * 400))) 3 r (nI 0)) 12 4 (nI 0)) 12 5 (AI υ 14 0)) 12 6 (AI υ 16 0)) 12 1 = _
        rw [FI_n (by omega), FI_n (by omega), FI_n (by omega), FI_aa, FI_n (by omega)]; exact e2
    have e4 : FI υ' 1 0 = nI r := (k1.1 1 0 (by omega) (by omega)).trans e1
    have e5 : AI υ' 3 r = nI 0 := AI_q
    obtain ⟨τ, g1, g2⟩ := h2 (e + 1) r 0 υ' (nI N) (by omega) hr e4 e5 (Nat.zero_le _) e3
    rw [p0]
    exact ⟨υ, τ, o1, kf_t k1 g1 (Nat.le_refl _) (Nat.le_refl _), g2⟩
  · intro d r y σ hd hr hC
    obtain ⟨e, rfl⟩ := dS (show 1 ≤ d by omega)
    have p0 : Run false (e + 1) 196 0 [some (.ref 85), some (.int (nI r)), some (.int y), some (.int (nI N))] [] σ = Run false (e + 1) 196 55 [some (.ref 85), some (.int (nI r)), some (.int y), some (.int (nI N))] [] (m0 r N y σ) := by
      rw [s196_0, inbT (by omega) (by decide), cond_true, cond_true, nI_clamp (by omega)]
      rfl
    have hM : MAt B N r 0 0 (tpN B N 0) (m0 r N y σ) := by
      refine ⟨⟨?_, fun j hj => ?_⟩, ?_, ⟨0, Nat.zero_le _, rfl, ?_⟩, ?_, ?_, ?_, hr⟩
      · unfold m0
        rw [FI_n (by omega), FI_n (by omega), FI_n (by omega), FI_n (by omega), FI_q]
      · unfold m0
        rw [AI_ff, AI_ff, AI_ff, AI_ff, AI_ff, AI_n (by omega), AI_n (by omega)]
        exact hC j hj
      · unfold m0
        rw [FI_n (by omega), FI_n (by omega), FI_q]
      · unfold m0
        rw [FI_n (by omega), FI_n (by omega), FI_n (by omega), FI_q]
      · unfold m0
        rw [FI_n (by omega), FI_q]
      · unfold m0
        rw [FI_q]
      · unfold m0
        rw [FI_n (by omega), FI_n (by omega), FI_n (by omega), FI_n (by omega), FI_n (by omega), FI_aa, FI_aa, FI_q]
    have h88 : AI (m0 r N y σ) 88 r = nI 0 := AI_q
    obtain ⟨τ, g1, g2⟩ := h3 e r 0 (m0 r N y σ) (nI r) y (nI N) (by omega) (Nat.zero_le _) hM h88
    rw [p0]
    exact ⟨τ, g1, g2⟩
/-! rows kept -/
theorem rowC_kf {r' c u : Nat} {cs : List CLS} (h : rowC σ r' cs) (g : KF r c u σ τ) (h1 : r' < r) (h2 : 16 * r ≤ c) (h3 : 400 * r ≤ u) : rowC τ r' cs := by
  obtain ⟨a, b, e⟩ := h
  refine ⟨a, (g.2.2.2.2.2.2.2 r' (by omega)).trans b, fun i hi => ?_⟩
  obtain ⟨x1, x2, x3, st, x4, x5, x6, x7⟩ := e i hi
  have k := g.2.2.2.2.2.1
  exact ⟨(k 4 _ (by decide) (by decide) (by omega)).trans x1, (k 5 _ (by decide) (by decide) (by omega)).trans x2, (k 6 _ (by decide) (by decide) (by omega)).trans x3, st, x4, (k 7 _ (by decide) (by decide) (by omega)).trans x5, (k 8 _ (by decide) (by decide) (by omega)).trans x6, fun j hj => (g.2.2.2.2.2.2.1 _ (by omega)).trans (x7 j hj)⟩
theorem rowM_mk {r' c u : Nat} {cs : List CLS} (h : rowM σ r' cs) (g : MK r c u σ τ) (h1 : r' < r) (h2 : 16 * r ≤ c) (h3 : 400 * r ≤ u) : rowM τ r' cs := by
  obtain ⟨a, b, e⟩ := h
  refine ⟨a, (g.2.2.2.2.2.2.2 r' (by omega)).trans b, fun i hi => ?_⟩
  obtain ⟨x1, x2, x3, st, x4, x5, x6, x7⟩ := e i hi
  have k := g.2.2.2.2.2.1
  refine ⟨(k 89 _ (by decide) (by decide) (by omega)).trans x1, (k 90 _ (by decide) (by decide) (by omega)).trans x2, ?_, st, x4, (k 92 _ (by decide) (by decide) (by omega)).trans x5, (k 93 _ (by decide) (by decide) (by omega)).trans x6, fun j hj => ?_⟩
  · rw [k 91 _ (by decide) (by decide) (by omega)]; exact x3
  · have := g.2.2.2.2.2.2.1 (400 * r' + st + j) (by omega)
    rw [this.1, this.2]; exact x7 j hj
theorem rowC_c {r' : Nat} {cs : List CLS} (h : rowC σ r' cs) (e : ∀ o, 3 ≤ o → o ≤ 9 → AI τ o = AI σ o) : rowC τ r' cs := by
  unfold rowC clC at h ⊢
  rw [e 3 (by decide) (by decide), e 4 (by decide) (by decide), e 5 (by decide) (by decide), e 6 (by decide) (by decide), e 7 (by decide) (by decide), e 8 (by decide) (by decide), e 9 (by decide) (by decide)]
  exact h
theorem rowM_c {r' : Nat} {cs : List CLS} (h : rowM σ r' cs) (e : ∀ o, 89 ≤ o → o ≤ 95 → AI τ o = AI σ o) (e8 : AI τ 88 r' = AI σ 88 r') : rowM τ r' cs := by
  unfold rowM clM at h ⊢
  rw [e8, e 89 (by decide) (by decide), e 90 (by decide) (by decide), e 91 (by decide) (by decide), e 92 (by decide) (by decide), e 93 (by decide) (by decide), e 94 (by decide) (by decide), e 95 (by decide) (by decide)]
  exact h
theorem rtC_row {cs : List CLS} {x : Option PO} {N : Nat} (h : rtC r 0 τ x (Sum.inl cs)) (hp : rtP N 0 (Sum.inl cs)) : rowC τ r cs := by
  obtain ⟨-, h2, h3, -⟩ := h
  refine ⟨by have := hp.1; omega, by rw [h2, Nat.zero_add], h3⟩
theorem rtM_row {cs : List CLS} {x : Option PO} {N : Nat} (h : rtM r 0 τ x (Sum.inl cs)) (hp : rtP N 0 (Sum.inl cs)) : rowM τ r cs := by
  obtain ⟨-, h2, h3, -⟩ := h
  refine ⟨by have := hp.1; omega, by rw [h2, Nat.zero_add], h3⟩
/-! the frame of a text read on both sides -/
def sFt (o k : Nat) : Bool := scF o k || (Nat.beq o 12 && Nat.ble k 1) || (Nat.beq o 1 && Nat.beq k 0) || (Nat.beq o 85 && (Nat.beq k 0 || Nat.beq k 2 || Nat.beq k 10 || Nat.beq k 11 || Nat.beq k 22))
def sAt (o : Nat) : Bool := scA o || (Nat.ble 2 o && Nat.ble o 9) || (Nat.ble 87 o && Nat.ble o 95) || Nat.beq o 145
theorem fT_off (h : Off σ τ) : OffG sFt sAt σ τ := offG_off h (fun o k q => by unfold sFt at q; simp only [Bool.or_eq_false_iff] at q; exact q.1.1.1) (fun o q => by unfold sAt at q; simp only [Bool.or_eq_false_iff] at q; exact q.1.1.1)
theorem fT_kf {c u : Nat} (h : KF r c u σ τ) : OffG sFt sAt σ τ := by
  refine ⟨fun o k q => h.1 o k ?_ ?_, fun o q => ⟨h.2.2.2.2.1 o ?_, by rw [h.2.2.1]⟩⟩
  · rintro ⟨rfl, a, b⟩
    have : k = 1 ∨ k = 2 := by omega
    rcases this with rfl | rfl <;> cases q
  · rintro ⟨rfl, a, b, -⟩
    have : k = 1 ∨ k = 2 ∨ k = 3 ∨ k = 4 ∨ k = 5 ∨ k = 6 := by omega
    rcases this with rfl | rfl | rfl | rfl | rfl | rfl <;> cases q
  · rintro ⟨a, b⟩
    have : o = 3 ∨ o = 4 ∨ o = 5 ∨ o = 6 ∨ o = 7 ∨ o = 8 ∨ o = 9 := by omega
    rcases this with rfl | rfl | rfl | rfl | rfl | rfl | rfl <;> cases q
theorem fT_mk {c u : Nat} (h : MK r c u σ τ) : OffG sFt sAt σ τ := by
  refine ⟨fun o k q => h.1 o k ?_, fun o q => ⟨h.2.2.2.2.1 o ?_, by rw [h.2.2.1]⟩⟩
  · rintro ⟨rfl, a, b⟩
    have : k = 4 ∨ k = 5 ∨ k = 6 ∨ k = 7 ∨ k = 8 := by omega
    rcases this with rfl | rfl | rfl | rfl | rfl <;> cases q
  · rintro ⟨a, b⟩
    have : o = 88 ∨ o = 89 ∨ o = 90 ∨ o = 91 ∨ o = 92 ∨ o = 93 ∨ o = 94 ∨ o = 95 := by omega
    rcases this with rfl | rfl | rfl | rfl | rfl | rfl | rfl | rfl <;> cases q
theorem fT_fgt : OffG sFt sAt σ (fgt σ) := offG_fi rfl (offG_fi rfl (offG_fi rfl offG_r))
theorem fT_m0 {y : Int32} : OffG sFt sAt σ (m0 r N y σ) := offG_fi rfl (offG_fi rfl (offG_fi rfl (offG_fi rfl (offG_fi rfl (offG_ai rfl (offG_ai rfl (offG_fi rfl (offG_fi rfl offG_r))))))))
theorem inv_txt {LS : List LAW} (hI : Inv σ) (h : OffG sFt sAt σ τ) (e22 : FI τ 85 22 = nI 0) (h2 : FI τ 85 2 = nI 0) (h120 : FI τ 12 0 = nI 0) (hf : FI τ 12 1 = FI τ 85 11) (h88 : AI τ 88 10 = nI 0) (hL : IL LS τ) : Inv τ := by
  obtain ⟨⟨⟨nW, hW, eW, eWc⟩, ⟨nM, hM, eM, eMc⟩, eTr, eIs⟩, hT, hP, hD, hS, hO, hF, hMM, hB, -⟩ := hI
  refine ⟨⟨⟨nW, hW, (h.1 85 1 rfl).trans eW, (h.1 0 0 rfl).trans eWc⟩, ⟨nM, hM, (h.1 85 29 rfl).trans eM, (h.1 0 1 rfl).trans eMc⟩, (h.1 85 45 rfl).trans eTr, e22⟩, ⟨⟨0, Nat.zero_le _, h2, h120, fun j hj => absurd hj (Nat.not_lt_zero j)⟩, hf, h88⟩, IPg h rfl rfl hP, IDg h rfl rfl hD, ISg h rfl rfl hS, IO_g h rfl rfl hO, IF_g h rfl rfl hF, IMg h rfl rfl hMM, IBg h rfl hB, LS, hL⟩
end TD
