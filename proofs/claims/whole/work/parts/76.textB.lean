/-! THE PURE PROOFS: whole texts -/
abbrev RTx : Type := List CLS ⊕ (Nat × Nat)
def cl0 : CLS := (0, 0, 0, [])
def rtP (N n : Nat) : RTx → Prop
  | Sum.inl cs => n + cs.length ≤ 16 ∧ ∀ c ∈ cs, clW c
  | Sum.inr (k, p) => 1 ≤ k ∧ k ≤ 3 ∧ p ≤ N
def rtC (r n : Nat) (τ : PS) (x : Option PO) : RTx → Prop
  | Sum.inl cs => FI τ 12 1 = -1 ∧ AI τ 3 r = nI (n + cs.length) ∧ (∀ i, i < cs.length → clC τ r (16 * r + n + i) (cs.getD i cl0)) ∧ x = some (.inl (some (.int (nI 0)), τ))
  | Sum.inr (k, p) => FI τ 12 1 = nI p ∧ x = some (.inl (some (.int (nI k)), τ))
def rtM (r n : Nat) (τ : PS) (x : Option PO) : RTx → Prop
  | Sum.inl cs => FI τ 85 5 = -1 ∧ AI τ 88 r = nI (n + cs.length) ∧ (∀ i, i < cs.length → clM τ r (16 * r + n + i) (cs.getD i cl0)) ∧ x = some (.inl (some (.int (nI 1)), wFI τ 85 11 (FI τ 85 5)))
  | Sum.inr (k, p) => FI τ 85 5 = nI p ∧ FI τ 85 6 = nI k ∧ x = some (.inl (some (.int (nI 0)), wFI τ 85 11 (FI τ 85 5)))
def LCl (B : Nat → Nat) (N n q : Nat) (res : RTx) : Prop := ∀ d r s0 σ (a1 : Int32), dU 0 + 6 ≤ d → r ≤ 10 → FI σ 1 0 = nI r → AI σ 3 r = nI n → s0 ≤ q → CAw B N (400 * r + s0) q σ → ∃ τ, KF r (16 * r + n) (400 * r + s0) σ τ ∧ rtC r n τ (Run false (d + 1) 133 51 [some (.ref 12), some (.int a1), some (.int (nI n))] [] σ) res
def LMl (B : Nat → Nat) (N n q : Nat) (res : RTx) : Prop := ∀ d r s0 σ (a1 a2 a3 : Int32), dU 0 + 6 ≤ d → s0 ≤ q → MAt B N r s0 0 q σ → AI σ 88 r = nI n → ∃ τ, MK r (16 * r + n) (400 * r + s0) σ τ ∧ rtM r n τ (Run false (d + 1) 196 55 [some (.ref 85), some (.int a1), some (.int a2), some (.int a3)] [] σ) res
section TB
variable {B : Nat → Nat} {N q d r n s0 c u st : Nat} {σ τ υ : PS} {rs : RS} {x : CLS}
theorem clCs_kf {c' u' : Nat} (h : clCs σ r c x st) (g : KF r c' u' σ τ) (hc : c < c') (hu : 400 * r + st + x.2.2.2.length ≤ u') : clC τ r c x := by
  obtain ⟨h1, h2, h3, h4, h5, h6, h7⟩ := h
  have e := g.2.2.2.2.2.1
  exact ⟨(e 4 c (by decide) (by decide) hc).trans h1, (e 5 c (by decide) (by decide) hc).trans h2, (e 6 c (by decide) (by decide) hc).trans h3, st, h4, (e 7 c (by decide) (by decide) hc).trans h5, (e 8 c (by decide) (by decide) hc).trans h6, fun j hj => (g.2.2.2.2.2.2.1 _ (by omega)).trans (h7 j hj)⟩
theorem clMs_mk {c' s' : Nat} (h : clMs σ r c x st) (g : MK r c' s' σ τ) (hc : c < c') (hu : 400 * r + st + x.2.2.2.length ≤ s') : clM τ r c x := by
  obtain ⟨h1, h2, h3, h4, h5, h6, h7⟩ := h
  have e := g.2.2.2.2.2.1
  refine ⟨(e 89 c (by decide) (by decide) hc).trans h1, (e 90 c (by decide) (by decide) hc).trans h2, ?_, st, h4, (e 92 c (by decide) (by decide) hc).trans h5, (e 93 c (by decide) (by decide) hc).trans h6, fun j hj => ?_⟩
  · rw [e 91 c (by decide) (by decide) hc]; exact h3
  · have := g.2.2.2.2.2.2.1 (400 * r + st + j) (by omega)
    rw [this.1, this.2]; exact h7 j hj
/-- the model at its loop's head -/
theorem m196_hd {a1 a2 a3 : Int32} (hd : 3 ≤ d) (hN : N ≤ 400) (hB : ∀ j, j < N → B j ≤ 255) (h : MAt B N r s0 0 q σ) : ∃ τ, At1 σ τ q ∧ MAt B N r s0 0 q τ ∧ Run false (d + 1) 196 55 [some (.ref 85), some (.int a1), some (.int a2), some (.int a3)] [] σ = if q < N then aft false (d + 1) 196 73 [some (.ref 85), some (.int a1), some (.int a2), some (.int a3)] [] (Run false d 194 0 [some (.ref 85), none, none, none, none] [] τ) else some (.inl (some (.int (nI 1)), wFI τ 85 11 (FI τ 85 5))) := by
  obtain ⟨e, rfl⟩ := dS (show 1 ≤ d by omega)
  have hqN := ma_le h
  obtain ⟨τ, a1, a2, a3, a4⟩ := m174 (d := e) (by omega) hN hB h
  refine ⟨τ, a1, a2, ?_⟩
  have e3 : FI τ 85 3 = nI N := a2.1.1
  rw [s196_55, c172_t (by omega) h.2.1, aft_v, s196_59, z10, cond_false, s195_0, a4, aft_v, s195_4, e3, a3, is01_0, is01_1]
  by_cases w : q < N
  · rw [oleF w (by omega), if_pos w]
    show aft _ _ _ _ _ _ (some (.inl (some (.int (nI 1)), τ))) = _
    rw [aft_v, s196_66, z10, cond_false]
  · rw [oleT (by omega) (by omega), if_neg w]
    show aft _ _ _ _ _ _ (some (.inl (some (.int (nI 0)), τ))) = _
    have e5 : FI (wFI τ 85 11 (FI τ 85 5)) 85 5 = -1 := by rw [FI_n (Or.inr (by decide))]; exact a2.2.1
    rw [aft_v, s196_66, z00, cond_true, c172_t (by omega) e5, aft_v, s196_88, is01_1, cond_true]
/-- behind a fault -/
theorem m196_bd {a1 a2 a3 : Int32} {p : Nat} (hd : 1 ≤ d) (hp : p < 2 ^ 31) (h : FI σ 85 5 = nI p) : Run false (d + 1) 196 55 [some (.ref 85), some (.int a1), some (.int a2), some (.int a3)] [] σ = some (.inl (some (.int (nI 0)), wFI σ 85 11 (FI σ 85 5))) := by
  have e5 : FI (wFI σ 85 11 (FI σ 85 5)) 85 5 = nI p := by rw [FI_n (Or.inr (by decide))]; exact h
  rw [s196_55, c172_f hd h hp, aft_v, s196_59, z00, cond_true, c172_f hd e5 hp, aft_v, s196_88, is01_0, cond_true]
theorem text_lp (hN : N ≤ 400) (hB : ∀ j, j < N → B j ≤ 255) : ∀ m n q, n + m = 16 → q ≤ N → ∃ res, rtP N n res ∧ LCl B N n q res ∧ LMl B N n q res := by
  have dU0 : dU 0 = 38 := rfl
  intro m
  induction m with
  | zero =>
    intro n q hn hq
    have hn : n = 16 := by omega
    subst hn
    by_cases w : q < N
    · have ht : tkN B N q ≠ 301 := fun e => by have := tk_end.mp e; omega
      refine ⟨Sum.inr (if 210 ≤ tkN B N q ∧ tkN B N q ≤ 217 then 3 else 1, q), ⟨?_, ?_, hq⟩, ?_, ?_⟩
      · split <;> decide
      · split <;> decide
      · intro d r s0 σ a1 hd hr h0 h3 hs h
        obtain ⟨e, rfl⟩ := dS (show 1 ≤ d by omega)
        obtain ⟨τ, h1, h2⟩ := kA_full (d := e) (by omega) hr h0 h3 h
        refine ⟨τ, h1.1, h1.2.2, ?_⟩
        rw [s133_51, oltF (Nat.le_refl _) (by decide), cond_false, caw_tok h, oeqF ht tk_b (by decide), cond_false, h2, aft_v, s133_71, z00, cond_true, h1.2.1]
      · intro d r s0 σ a1 a2 a3 hd hs h h88
        obtain ⟨e, rfl⟩ := dS (show 1 ≤ d by omega)
        obtain ⟨τ1, b1, b2, b3⟩ := m196_hd (d := e + 1) (a1 := a1) (a2 := a2) (a3 := a3) (by omega) hN hB h
        obtain ⟨τ2, h1, h2⟩ := mA_full (d := e) (by omega) hN hB b2 (by rw [b1.2.2.2.1]; exact h88)
        refine ⟨τ2, mk_t (mk_mf (mf_at b1)) h1.1 (Nat.le_refl _) (Nat.le_refl _), h1.2.1, h1.2.2, ?_⟩
        rw [b3, if_pos w, h2, aft_n, s196_73, m196_bd (by omega) (by omega) h1.2.1]
    · have ht : tkN B N q = 301 := tk_end.mpr (by omega)
      refine ⟨Sum.inl [], ⟨by decide, fun c hc => by cases hc⟩, ?_, ?_⟩
      · intro d r s0 σ a1 hd hr h0 h3 hs h
        obtain ⟨T, i, h1, h2, h3', h4, h5, h6, h7, h8⟩ := h
        refine ⟨σ, kf_r, h8, h3, fun i hi => absurd hi (Nat.not_lt_zero i), ?_⟩
        rw [s133_51, oltF (Nat.le_refl _) (by decide), cond_false, h5, oeqT ht, cond_true]
      · intro d r s0 σ a1 a2 a3 hd hs h h88
        obtain ⟨τ1, b1, b2, b3⟩ := m196_hd (d := d) (a1 := a1) (a2 := a2) (a3 := a3) (by omega) hN hB h
        refine ⟨τ1, mk_mf (mf_at b1), b2.2.1, by rw [b1.2.2.2.1]; exact h88, fun i hi => absurd hi (Nat.not_lt_zero i), ?_⟩
        rw [b3, if_neg w]
  | succ m ih =>
    intro n q hn hq
    by_cases w : q < N
    · have ht : tkN B N q ≠ 301 := fun e => by have := tk_end.mp e; omega
      obtain ⟨rs, hR, hP⟩ := bdx (B := B) (q := q) hN hB hq
      cases e : whR B N q rs with
      | inr y =>
        obtain ⟨k, p⟩ := y
        rw [e] at hP
        refine ⟨Sum.inr (k, p), hP, ?_, ?_⟩
        · intro d r s0 σ a1 hd hr h0 h3 hs h
          obtain ⟨f, rfl⟩ := dS (show 1 ≤ d by omega)
          obtain ⟨τ, h1⟩ := kW_ok (d := f) (rs := rs) hN (by omega) hr h0 h3 (by omega) hs h hR
          rw [e] at h1
          obtain ⟨h1, h2⟩ := h1
          refine ⟨τ, h1.1, h1.2.2, ?_⟩
          rw [s133_51, oltF (by omega) (by omega), cond_false, caw_tok h, oeqF ht tk_b (by decide), cond_false, h2, aft_v, s133_71, z00, cond_true, h1.2.1]
        · intro d r s0 σ a1 a2 a3 hd hs h h88
          obtain ⟨f, rfl⟩ := dS (show 1 ≤ d by omega)
          obtain ⟨τ1, b1, b2, b3⟩ := m196_hd (d := f + 1) (a1 := a1) (a2 := a2) (a3 := a3) (by omega) hN hB h
          obtain ⟨τ2, h1, h2⟩ := mW_ok (d := f) (rs := rs) (by omega) hN hB hs b2 (by rw [b1.2.2.2.1]; exact h88) (by omega) hR
          rw [e] at h1
          refine ⟨τ2, mk_t (mk_mf (mf_at b1)) h1.1 (Nat.le_refl _) (Nat.le_refl _), h1.2.1, h1.2.2, ?_⟩
          rw [b3, if_pos w, h2, aft_n, s196_73, m196_bd (by omega) (by have := hP.2.2; omega) h1.2.1]
      | inl y =>
        obtain ⟨q4, c⟩ := y
        rw [e] at hP
        obtain ⟨p1, p2, p3, p4⟩ := hP
        obtain ⟨res, i1, i2, i3⟩ := ih (n + 1) q4 (by omega) p3
        refine ⟨(match res with | Sum.inl cs => Sum.inl (c :: cs) | Sum.inr y => Sum.inr y), ?_, ?_, ?_⟩
        · rcases res with cs | ⟨k, p⟩
          · refine ⟨by have := i1.1; show n + (cs.length + 1) ≤ 16; omega, fun c' hc' => ?_⟩
            rcases List.mem_cons.mp hc' with rfl | hc'
            · exact p1
            · exact i1.2 c' hc'
          · exact i1
        · intro d r s0 σ a1 hd hr h0 h3 hs h
          obtain ⟨f, rfl⟩ := dS (show 1 ≤ d by omega)
          obtain ⟨τ, h1⟩ := kW_ok (d := f) (rs := rs) hN (by omega) hr h0 h3 (by omega) hs h hR
          rw [e] at h1
          obtain ⟨h1, h2, h4, h5, h6⟩ := h1
          have p0 : Run false (f + 1 + 1) 133 51 [some (.ref 12), some (.int a1), some (.int (nI n))] [] σ = Run false (f + 1 + 1) 133 51 [some (.ref 12), some (.int a1), some (.int (nI (n + 1)))] [] τ := by
            rw [s133_51, oltF (by omega) (by omega), cond_false, caw_tok h, oeqF ht tk_b (by decide), cond_false, h6, aft_v, s133_71, z10, cond_false, nI_add]
          obtain ⟨τ2, j1, j2⟩ := i2 (f + 1) r (s0 + c.2.2.2.length) τ a1 (by omega) hr ((h1.1 1 0 (by omega) (by omega)).trans h0) h4 (by omega) (by rw [← Nat.add_assoc]; exact h2)
          rw [p0]
          refine ⟨τ2, kf_t h1 j1 (by omega) (by omega), ?_⟩
          rcases res with cs | ⟨k, p⟩
          · obtain ⟨j2, j3, j4, j5⟩ := j2
            refine ⟨j2, ?_, ?_, j5⟩
            · rw [j3]; show nI (n + 1 + cs.length) = nI (n + (cs.length + 1)); rw [show n + 1 + cs.length = n + (cs.length + 1) by omega]
            · intro i hi
              cases i with
              | zero =>
                have := clCs_kf h5 j1 (by omega) (by omega)
                exact this
              | succ i =>
                have := j4 i (by have : i + 1 < cs.length + 1 := hi; omega)
                rw [show 16 * r + (n + 1) + i = 16 * r + n + (i + 1) by omega] at this
                exact this
          · exact j2
        · intro d r s0 σ a1 a2 a3 hd hs h h88
          obtain ⟨f, rfl⟩ := dS (show 1 ≤ d by omega)
          obtain ⟨τ1, b1, b2, b3⟩ := m196_hd (d := f + 1) (a1 := a1) (a2 := a2) (a3 := a3) (by omega) hN hB h
          obtain ⟨τ, h1, h2⟩ := mW_ok (d := f) (rs := rs) (by omega) hN hB hs b2 (by rw [b1.2.2.2.1]; exact h88) (by omega) hR
          rw [e] at h1
          obtain ⟨h1, h3, h4, h5⟩ := h1
          have p0 : Run false (f + 1 + 1) 196 55 [some (.ref 85), some (.int a1), some (.int a2), some (.int a3)] [] σ = Run false (f + 1 + 1) 196 55 [some (.ref 85), some (.int a1), some (.int a2), some (.int a3)] [] τ := by
            rw [b3, if_pos w, h2, aft_n, s196_73]
          obtain ⟨τ2, j1, j2⟩ := i3 (f + 1) r (s0 + c.2.2.2.length) τ a1 a2 a3 (by omega) (by omega) h3 h4
          rw [p0]
          refine ⟨τ2, mk_t (mk_t (mk_mf (mf_at b1)) h1 (Nat.le_refl _) (Nat.le_refl _)) j1 (by omega) (by omega), ?_⟩
          rcases res with cs | ⟨k, p⟩
          · obtain ⟨j2, j3, j4, j5⟩ := j2
            refine ⟨j2, ?_, ?_, j5⟩
            · rw [j3]; show nI (n + 1 + cs.length) = nI (n + (cs.length + 1)); rw [show n + 1 + cs.length = n + (cs.length + 1) by omega]
            · intro i hi
              cases i with
              | zero =>
                have := clMs_mk h5 j1 (by omega) (by omega)
                exact this
              | succ i =>
                have := j4 i (by have : i + 1 < cs.length + 1 := hi; omega)
                rw [show 16 * r + (n + 1) + i = 16 * r + n + (i + 1) by omega] at this
                exact this
          · exact j2
    · have ht : tkN B N q = 301 := tk_end.mpr (by omega)
      refine ⟨Sum.inl [], ⟨by show n + 0 ≤ 16; omega, fun c hc => by cases hc⟩, ?_, ?_⟩
      · intro d r s0 σ a1 hd hr h0 h3 hs h
        obtain ⟨T, i, h1, h2, h3', h4, h5, h6, h7, h8⟩ := h
        refine ⟨σ, kf_r, h8, h3, fun i hi => absurd hi (Nat.not_lt_zero i), ?_⟩
        rw [s133_51, oltF (by omega) (by omega), cond_false, h5, oeqT ht, cond_true]
      · intro d r s0 σ a1 a2 a3 hd hs h h88
        obtain ⟨τ1, b1, b2, b3⟩ := m196_hd (d := d) (a1 := a1) (a2 := a2) (a3 := a3) (by omega) hN hB h
        refine ⟨τ1, mk_mf (mf_at b1), b2.2.1, by rw [b1.2.2.2.1]; exact h88, fun i hi => absurd hi (Nat.not_lt_zero i), ?_⟩
        rw [b3, if_neg w]
end TB
