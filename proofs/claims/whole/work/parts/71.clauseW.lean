/-! THE PURE PROOFS: whole clauses, the class -/
abbrev RH : Type := (Nat × Nat × Nat) ⊕ (Nat × Nat)
/-- kind, sort, where the body begins -/
def hdK (B : Nat → Nat) (N q : Nat) : RH := if 210 ≤ tkN B N q ∧ tkN B N q ≤ 217 then (if tkN B N q ≤ 214 then (if 200 ≤ tkN B N (nxN B N q) ∧ tkN B N (nxN B N q) ≤ 204 then Sum.inl (tkN B N q - 210, tkN B N (nxN B N q) - 200, nxN B N (nxN B N q)) else Sum.inr (1, nxN B N q)) else Sum.inl (tkN B N q - 210, 0, nxN B N q)) else Sum.inr (1, q)
abbrev RWh : Type := (Nat × CLS) ⊕ (Nat × Nat)
def whR (B : Nat → Nat) (N q : Nat) (rs : RS) : RWh := match hdK B N q with | Sum.inr x => Sum.inr x | Sum.inl (k, s, q2) => (match clR B N (bdR B N k q2 rs) with | Sum.inr x => Sum.inr x | Sum.inl (q4, num, cs) => Sum.inl (q4, (k, s, num, cs)))
def KA (B : Nat → Nat) (N r n u d : Nat) (σ τ : PS) : RH → Prop
  | Sum.inl (k, s, q2) => KF r (16 * r + n) u σ τ ∧ CAt B N (16 * r + n) u q2 τ ∧ AI τ 3 r = nI (n + 1) ∧ AI τ 4 (16 * r + n) = nI (210 + k) ∧ AI τ 5 (16 * r + n) = (if k ≤ 4 then nI s else -1) ∧ AI τ 6 (16 * r + n) = nI 0 ∧ AI τ 7 (16 * r + n) = nI u ∧ Run false (d + 1) 144 0 [some (.ref 12), none, none, none] [] σ = Run false (d + 1) 144 102 [some (.ref 12), some (.int (nI (210 + k))), some (.int (if k ≤ 4 then nI s else -1)), none] [] τ
  | Sum.inr (k, p) => KBad r (16 * r + n) u σ τ k p ∧ Run false (d + 1) 144 0 [some (.ref 12), none, none, none] [] σ = some (.inl (some (.int (nI 0)), τ))
section KE
variable {B : Nat → Nat} {N u q d r n : Nat} {σ : PS} {rs : RS}
theorem kA_ok (hd : 3 ≤ d) (hr : r ≤ 10) (h0 : FI σ 1 0 = nI r) (h3 : AI σ 3 r = nI n) (hn : n < 16) (h : CAw B N u q σ) : ∃ τ, KA B N r n u d σ τ (hdK B N q) := by
  have hb := tk_b (B := B) (N := N) (q := q)
  unfold hdK
  by_cases w : 210 ≤ tkN B N q ∧ tkN B N q ≤ 217
  · rw [if_pos w]
    obtain ⟨hq, n1, n2⟩ := tk_nx (rfl : tkN B N q = tkN B N q) (by omega)
    obtain ⟨τ1, a1, a2, a3⟩ := w141 (d := d) (by omega) h hq
    have p0 : Run false (d + 1) 144 0 [some (.ref 12), none, none, none] [] σ = Run false (d + 1) 144 45 [some (.ref 12), some (.int (nI (tkN B N q))), none, none] [] τ1 := by
      rw [s144_0, caw_tok h, oltF w.1 hb, cond_false, oleT w.2 (by decide), cond_true, c93 (by omega) hr h0 h3 (by omega), if_pos hn, aft_v, s144_32, z00, cond_true, a3, aft_n]
    have k1 : KF r (16 * r + n) u σ τ1 := kf_cf (a1 (16 * r + n)) (Nat.le_refl _)
    have h0' : FI τ1 1 0 = nI r := ((a1 0).1 1 0 (by omega) (by omega)).trans h0
    have h3' : AI τ1 3 r = nI n := by rw [(a1 0).2.2.2.2.1 3 (by decide) (by decide)]; exact h3
    by_cases v : tkN B N q ≤ 214
    · rw [if_pos v]
      have hb1 := tk_b (B := B) (N := N) (q := nxN B N q)
      by_cases v2 : 200 ≤ tkN B N (nxN B N q) ∧ tkN B N (nxN B N q) ≤ 204
      · rw [if_pos v2]
        obtain ⟨hq1, m1, m2⟩ := tk_nx (rfl : tkN B N (nxN B N q) = tkN B N (nxN B N q)) (by omega)
        obtain ⟨τ2, b1, b2, b3⟩ := w141 (d := d) (by omega) a2 hq1
        have k2 : KF r (16 * r + n) u τ1 τ2 := kf_cf (b1 (16 * r + n)) (Nat.le_refl _)
        have h0'' : FI τ2 1 0 = nI r := ((b1 0).1 1 0 (by omega) (by omega)).trans h0'
        have h3'' : AI τ2 3 r = nI n := by rw [(b1 0).2.2.2.2.1 3 (by decide) (by decide)]; exact h3'
        have e4 := c94 (d := d) (k := nI (tkN B N q)) (s := nI (tkN B N (nxN B N q) - 200)) (by omega) hr h0'' h3'' hn (caw_u b2)
        obtain ⟨x1, x2, x3, x4, x5⟩ := add_v (σ := τ2) (r := r) (c := 16 * r + n) (n := n) (u := u) (k := nI (tkN B N q)) (s := nI (tkN B N (nxN B N q) - 200))
        have e210 : 210 + (tkN B N q - 210) = tkN B N q := by omega
        refine ⟨addS τ2 r (16 * r + n) n u (nI (tkN B N q)) (nI (tkN B N (nxN B N q) - 200)), kf_t (kf_t k1 k2 (Nat.le_refl _) (Nat.le_refl _)) kf_add (Nat.le_refl _) (Nat.le_refl _), ca_add b2, x1, by rw [x2, e210], ?_, x4, x5, ?_⟩
        · rw [x3, if_pos (by omega)]
        · rw [if_pos (show tkN B N q - 210 ≤ 4 by omega), e210, p0, s144_45, oltF v (by decide), cond_false, caw_tok a2, oltF v2.1 hb1, cond_false, oltT (show tkN B N (nxN B N q) < 205 by omega) (by decide), cond_true, nI_sub v2.1, b3, aft_n, s144_93, e4, aft_n]
      · rw [if_neg v2]
        obtain ⟨τ2, b1, b2, b3, b4⟩ := w140 (d := d) (k := 1) (by omega) a2
        refine ⟨τ2, ⟨kf_t k1 (kf_cf (b1 (16 * r + n)) (Nat.le_refl _)) (Nat.le_refl _) (Nat.le_refl _), b2, b3⟩, ?_⟩
        rw [p0, s144_45, oltF v (by decide), cond_false, caw_tok a2]
        by_cases v3 : tkN B N (nxN B N q) < 200
        · rw [oltT v3 (by decide), cond_true, b4, aft_v, s144_79, is01_0, cond_true]
        · rw [oltF (by omega) hb1, cond_false, oltF (by omega) hb1, cond_false, b4, aft_v, s144_79, is01_0, cond_true]
    · rw [if_neg v]
      have e4 := c94 (d := d) (k := nI (tkN B N q)) (s := -1) (by omega) hr h0' h3' hn (caw_u a2)
      obtain ⟨x1, x2, x3, x4, x5⟩ := add_v (σ := τ1) (r := r) (c := 16 * r + n) (n := n) (u := u) (k := nI (tkN B N q)) (s := -1)
      have e210 : 210 + (tkN B N q - 210) = tkN B N q := by omega
      refine ⟨addS τ1 r (16 * r + n) n u (nI (tkN B N q)) (-1), kf_t k1 kf_add (Nat.le_refl _) (Nat.le_refl _), ca_add a2, x1, by rw [x2, e210], ?_, x4, x5, ?_⟩
      · rw [x3, if_neg (by omega)]
      · rw [if_neg (show ¬ tkN B N q - 210 ≤ 4 by omega), e210, p0, s144_45, oltT (show 214 < tkN B N q by omega) hb, cond_true, s144_93, e4, aft_n]
  · rw [if_neg w]
    obtain ⟨τ2, b1, b2, b3, b4⟩ := w140 (d := d) (k := 1) (by omega) h
    refine ⟨τ2, ⟨kf_cf (b1 (16 * r + n)) (Nat.le_refl _), b2, b3⟩, ?_⟩
    rw [s144_0, caw_tok h]
    by_cases v : tkN B N q < 210
    · rw [oltT v (by decide), cond_true, b4, aft_v, s144_24, is01_0, cond_true]
    · rw [oltF (by omega) hb, cond_false, oleF (by omega) hb, cond_false, b4, aft_v, s144_24, is01_0, cond_true]
/-- a clause more than there may be -/
theorem kA_full (hd : 3 ≤ d) (hr : r ≤ 10) (h0 : FI σ 1 0 = nI r) (h3 : AI σ 3 r = nI 16) (h : CAw B N u q σ) : ∃ τ, KBad r (16 * r + 16) u σ τ (if 210 ≤ tkN B N q ∧ tkN B N q ≤ 217 then 3 else 1) q ∧ Run false (d + 1) 144 0 [some (.ref 12), none, none, none] [] σ = some (.inl (some (.int (nI 0)), τ)) := by
  have hb := tk_b (B := B) (N := N) (q := q)
  by_cases w : 210 ≤ tkN B N q ∧ tkN B N q ≤ 217
  · obtain ⟨τ2, b1, b2, b3, b4⟩ := w140 (d := d) (k := 3) (by omega) h
    rw [if_pos w]
    refine ⟨τ2, ⟨kf_cf (b1 (16 * r + 16)) (Nat.le_refl _), b2, b3⟩, ?_⟩
    rw [s144_0, caw_tok h, oltF w.1 hb, cond_false, oleT w.2 (by decide), cond_true, c93 (by omega) hr h0 h3 (by decide), if_neg (by decide), aft_v, s144_32, z10, cond_false, b4, aft_v, s144_40, is01_0, cond_true]
  · rw [if_neg w]
    obtain ⟨τ2, b1, b2, b3, b4⟩ := w140 (d := d) (k := 1) (by omega) h
    refine ⟨τ2, ⟨kf_cf (b1 (16 * r + 16)) (Nat.le_refl _), b2, b3⟩, ?_⟩
    rw [s144_0, caw_tok h]
    by_cases v : tkN B N q < 210
    · rw [oltT v (by decide), cond_true, b4, aft_v, s144_24, is01_0, cond_true]
    · rw [oltF (by omega) hb, cond_false, oleF (by omega) hb, cond_false, b4, aft_v, s144_24, is01_0, cond_true]
def KW (B : Nat → Nat) (N r n s0 : Nat) (σ τ : PS) (x : Option PO) : RWh → Prop
  | Sum.inl (q4, c) => KF r (16 * r + n) (400 * r + s0) σ τ ∧ CAw B N (400 * r + s0 + c.2.2.2.length) q4 τ ∧ AI τ 3 r = nI (n + 1) ∧ clCs τ r (16 * r + n) c s0 ∧ x = some (.inl (some (.int (nI 1)), τ))
  | Sum.inr (k, p) => KBad r (16 * r + n) (400 * r + s0) σ τ k p ∧ x = some (.inl (some (.int (nI 0)), τ))
/-- what the body needs of the reading -/
def bdH (B : Nat → Nat) (N q : Nat) (rs : RS) : Prop := ∀ k s q2, hdK B N q = Sum.inl (k, s, q2) → (k = 0 → tkN B N q2 = 61 → CSim B N (fS 0) (dU 0 + 2) (nxN B N q2) rs ∧ MSim B N gS (dU 0 + 2) 0 (nxN B N q2) rs ∧ PRp N (nxN B N q2) rs ∧ TY 3 id fa rs) ∧ (k = 4 → tkN B N q2 = 220 → CSim B N (fE 0) (dU 0 + 5) (nxN B N q2) rs ∧ MSim B N gE (dU 0 + 5) 0 (nxN B N q2) rs ∧ PRp N (nxN B N q2) rs ∧ TY 0 id tr rs)
theorem hdK_r {k s q2 : Nat} (h : hdK B N q = Sum.inl (k, s, q2)) : k < 8 ∧ s ≤ 4 ∧ (k ≤ 4 ∨ s = 0) ∧ q < q2 ∧ q2 ≤ N := by
  unfold hdK at h
  by_cases w : 210 ≤ tkN B N q ∧ tkN B N q ≤ 217
  · rw [if_pos w] at h
    obtain ⟨hq, n1, n2⟩ := tk_nx (rfl : tkN B N q = tkN B N q) (by omega)
    by_cases v : tkN B N q ≤ 214
    · rw [if_pos v] at h
      by_cases v2 : 200 ≤ tkN B N (nxN B N q) ∧ tkN B N (nxN B N q) ≤ 204
      · rw [if_pos v2] at h
        obtain ⟨hq1, m1, m2⟩ := tk_nx (rfl : tkN B N (nxN B N q) = tkN B N (nxN B N q)) (by omega)
        injection h with h
        injection h with e1 h
        injection h with e2 e3
        omega
      · rw [if_neg v2] at h; cases h
    · rw [if_neg v] at h
      injection h with h
      injection h with e1 h
      injection h with e2 e3
      omega
  · rw [if_neg w] at h; cases h
/-- a body's and a whole clause's end -/
theorem bd_end {k q2 : Nat} (hk : k < 8) (hq : q2 ≤ N) (hS : k = 0 → tkN B N q2 = 61 → PRp N (nxN B N q2) rs) (hE : k = 4 → tkN B N q2 = 220 → PRp N (nxN B N q2) rs) : match clR B N (bdR B N k q2 rs) with
    | Sum.inl (q4, num, cs) => q2 < q4 ∧ q4 ≤ N ∧ cs.length + q2 ≤ q4
    | Sum.inr (j, p) => 1 ≤ j ∧ j ≤ 3 ∧ p ≤ N := by
  have fin : ∀ rc : RC, (match rc with | Sum.inl (q3, num, cs) => q2 ≤ q3 ∧ q3 ≤ N ∧ cs.length + q2 ≤ q3 | Sum.inr (j, p) => 1 ≤ j ∧ j ≤ 3 ∧ p ≤ N) → match clR B N rc with
    | Sum.inl (q4, num, cs) => q2 < q4 ∧ q4 ≤ N ∧ cs.length + q2 ≤ q4
    | Sum.inr (j, p) => 1 ≤ j ∧ j ≤ 3 ∧ p ≤ N := by
    intro rc h
    rcases rc with ⟨q3, num, cs⟩ | ⟨j, p⟩
    · obtain ⟨h1, h2, h3⟩ := h
      show match (if tkN B N q3 = 59 then Sum.inl (nxN B N q3, num, cs) else Sum.inr (1, q3) : RC) with
        | Sum.inl (q4, num, cs) => q2 < q4 ∧ q4 ≤ N ∧ cs.length + q2 ≤ q4
        | Sum.inr (j, p) => 1 ≤ j ∧ j ≤ 3 ∧ p ≤ N
      by_cases v : tkN B N q3 = 59
      · rw [if_pos v]
        obtain ⟨hq3, n1, n2⟩ := tk_nx v (by decide)
        exact ⟨by omega, n2, by omega⟩
      · rw [if_neg v]
        exact ⟨by decide, by decide, h2⟩
    · exact h
  refine fin _ ?_
  have sub : ∀ t, tkN B N q2 = t → t ≠ 301 → PRp N (nxN B N q2) rs → match rs0 rs with | Sum.inl (q3, num, cs) => q2 ≤ q3 ∧ q3 ≤ N ∧ cs.length + q2 ≤ q3 | Sum.inr (j, p) => 1 ≤ j ∧ j ≤ 3 ∧ p ≤ N := by
    intro t ht hne hp
    obtain ⟨hq2, n1, n2⟩ := tk_nx ht hne
    rcases rs with ⟨q3, cs⟩ | ⟨j, p⟩
    · obtain ⟨⟨a, b⟩, c⟩ := hp
      exact ⟨by omega, a, by omega⟩
    · exact hp.1
  unfold bdR
  by_cases k0 : k = 0
  · rw [if_pos k0]
    by_cases w : tkN B N q2 = 61
    · rw [if_pos w]; exact sub 61 w (by decide) (hS k0 w)
    · rw [if_neg w]; exact ⟨by decide, by decide, hq⟩
  · rw [if_neg k0]
    by_cases k4 : k = 4
    · rw [if_pos k4]
      by_cases w : tkN B N q2 = 220
      · rw [if_pos w]; exact sub 220 w (by decide) (hE k4 w)
      · rw [if_neg w]; exact ⟨Nat.le_refl _, hq, by show 0 + q2 ≤ q2; omega⟩
    · rw [if_neg k4]
      by_cases k7 : k = 7
      · rw [if_pos k7]
        by_cases w : tkN B N q2 = 218 ∨ tkN B N q2 = 219
        · rw [if_pos w]
          obtain ⟨hq2, n1, n2⟩ := tk_nx (rfl : tkN B N q2 = tkN B N q2) (by omega)
          exact ⟨by omega, n2, by show 0 + q2 ≤ _; omega⟩
        · rw [if_neg w]; exact ⟨by decide, by decide, hq⟩
      · rw [if_neg k7]
        by_cases w : tkN B N q2 = 300 ∧ loK k ≤ nvN B N q2 ∧ nvN B N q2 ≤ hiK k
        · rw [if_pos w]
          obtain ⟨hq2, n1, n2⟩ := tk_nx w.1 (by omega)
          exact ⟨by omega, n2, by show 0 + q2 ≤ _; omega⟩
        · rw [if_neg w]
          refine ⟨?_, ?_, hq⟩
          · show 1 ≤ if tkN B N q2 = 300 then 2 else 1
            split <;> decide
          · show (if tkN B N q2 = 300 then 2 else 1) ≤ 3
            split <;> decide
theorem kW_ok {s0 : Nat} (hN : N ≤ 400) (hd : dU 0 + 5 ≤ d) (hr : r ≤ 10) (h0 : FI σ 1 0 = nI r) (h3 : AI σ 3 r = nI n) (hn : n < 16) (hs : s0 ≤ q) (h : CAw B N (400 * r + s0) q σ) (hR : bdH B N q rs) : ∃ τ, KW B N r n s0 σ τ (Run false (d + 1) 144 0 [some (.ref 12), none, none, none] [] σ) (whR B N q rs) := by
  have dU0 : dU 0 = 38 := rfl
  obtain ⟨τ1, h1⟩ := kA_ok (d := d) (by omega) hr h0 h3 hn h
  unfold whR
  cases e : hdK B N q with
  | inr x =>
    obtain ⟨k, p⟩ := x
    rw [e] at h1
    exact ⟨τ1, h1⟩
  | inl x =>
    obtain ⟨k, s, q2⟩ := x
    rw [e] at h1
    obtain ⟨a1, a2, a3, a4, a5, a6, a7, a8⟩ := h1
    obtain ⟨g1, g2, g3, g4, g5⟩ := hdK_r e
    obtain ⟨hS, hE⟩ := hR k s q2 e
    obtain ⟨τ2, h2⟩ := kD_body (d := d) (a2 := if k ≤ 4 then nI s else -1) (rs := rs) hN hd g1 (show 16 * r + n < 176 by omega) (by omega) a2 a6 (fun x y => ⟨(hS x y).1, (hS x y).2.2.1.1⟩) (fun x y => ⟨(hE x y).1, (hE x y).2.2.1.1⟩)
    have hend := bd_end (B := B) (N := N) (rs := rs) g1 g5 (fun x y => (hS x y).2.2.1) (fun x y => (hE x y).2.2.1)
    rw [← a8] at h2
    refine ⟨τ2, ?_⟩
    show KW B N r n s0 σ τ2 _ (match clR B N (bdR B N k q2 rs) with | Sum.inr x => Sum.inr x | Sum.inl (q4, num, cs) => Sum.inl (q4, (k, s, num, cs)))
    cases e2 : clR B N (bdR B N k q2 rs) with
    | inr x =>
      obtain ⟨j, p⟩ := x
      rw [e2] at h2
      obtain ⟨b1, b2, b3, b4⟩ := h2
      exact ⟨⟨kf_t a1 (kf_cg b1 (Nat.le_refl _)) (Nat.le_refl _) (Nat.le_refl _), b2, b3⟩, b4⟩
    | inl x =>
      obtain ⟨q4, num, cs⟩ := x
      rw [e2] at h2 hend
      obtain ⟨b1, b2, b3, b4, b5⟩ := h2
      obtain ⟨c1, c2, c3⟩ := hend
      have q6 : ∀ o, o = 4 ∨ o = 5 ∨ o = 7 ∨ o = 3 → AI τ2 o = AI τ1 o := fun o ho => b1.2.2.2.2.1 o (by omega) (by omega) (by omega)
      refine ⟨kf_t a1 (kf_cg b1 (Nat.le_refl _)) (Nat.le_refl _) (Nat.le_refl _), caw_of b2, by rw [q6 3 (by omega)]; exact a3, ⟨by rw [q6 4 (by omega)]; exact a4, by rw [q6 5 (by omega)]; exact a5, b3, by show s0 + cs.length ≤ 400; omega, by rw [q6 7 (by omega)]; exact a7, ?_, b4⟩, b5⟩
      exact ca_8 b2
end KE
