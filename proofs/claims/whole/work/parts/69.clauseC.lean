/-! THE PURE PROOFS: clauses, the class -/
/-- at a token, no clause open -/
def CAw (B : Nat → Nat) (N u q : Nat) (τ : PS) : Prop := ∃ T i, TokS B N T τ ∧ i ≤ T ∧ tpN B N i = q ∧ FI τ 12 4 = nI i ∧ FI τ 12 5 = nI (tkN B N q) ∧ FI τ 12 6 = nI (nvN B N q) ∧ (FI τ 1 1 = nI u ∧ FI τ 12 1 = -1)
/-- what a clause changes: the row's clauses from c on, its steps from u on -/
def KF (r c u : Nat) (σ τ : PS) : Prop := (∀ o k, ¬ (o = 1 ∧ 1 ≤ k ∧ k ≤ 2) → ¬ (o = 12 ∧ 1 ≤ k ∧ k ≤ 6 ∧ k ≠ 3) → FI τ o k = FI σ o k) ∧ FL τ = FL σ ∧ AL τ = AL σ ∧ XX τ = XX σ ∧ (∀ o, ¬ (3 ≤ o ∧ o ≤ 9) → AI τ o = AI σ o) ∧ (∀ o j, 4 ≤ o → o ≤ 8 → j < c → AI τ o j = AI σ o j) ∧ (∀ j, j < u → AI τ 9 j = AI σ 9 j) ∧ ∀ j, j ≠ r → AI τ 3 j = AI σ 3 j
def KBad (r c u : Nat) (σ τ : PS) (k p : Nat) : Prop := KF r c u σ τ ∧ FI τ 12 2 = nI k ∧ FI τ 12 1 = nI p
section KC
variable {B : Nat → Nat} {N u q d r c L : Nat} {σ τ υ : PS}
theorem kf_r : KF r c u σ σ := ⟨fun _ _ _ _ => rfl, rfl, rfl, rfl, fun _ _ => rfl, fun _ _ _ _ _ => rfl, fun _ _ => rfl, fun _ _ => rfl⟩
theorem kf_t {c' u' : Nat} (h : KF r c u σ τ) (g : KF r c' u' τ υ) (hc : c ≤ c') (hu : u ≤ u') : KF r c u σ υ := ⟨fun o k a b => (g.1 o k a b).trans (h.1 o k a b), g.2.1.trans h.2.1, g.2.2.1.trans h.2.2.1, g.2.2.2.1.trans h.2.2.2.1, fun o a => (g.2.2.2.2.1 o a).trans (h.2.2.2.2.1 o a), fun o j a b e => (g.2.2.2.2.2.1 o j a b (by omega)).trans (h.2.2.2.2.2.1 o j a b e), fun j a => (g.2.2.2.2.2.2.1 j (by omega)).trans (h.2.2.2.2.2.2.1 j a), fun j a => (g.2.2.2.2.2.2.2 j a).trans (h.2.2.2.2.2.2.2 j a)⟩
theorem kf_cf (h : CF L u σ τ) (hc : c ≤ L) : KF r c u σ τ := ⟨fun o k a b => h.1 o k (by omega) b, h.2.1, h.2.2.1, h.2.2.2.1, fun o a => h.2.2.2.2.1 o (by omega) (by omega), fun o j a b e => by
  by_cases w : o = 8
  · subst w; exact h.2.2.2.2.2.1 j (by omega)
  · rw [h.2.2.2.2.1 o w (by omega)], fun j a => h.2.2.2.2.2.2 j a, fun j _ => by rw [h.2.2.2.2.1 3 (by decide) (by decide)]⟩
theorem toks_kf {T : Nat} (h : TokS B N T σ) (g : KF r c u σ τ) : TokS B N T τ := by
  refine ⟨h.1, (g.1 12 3 (by omega) (by omega)).trans h.2.1, h.2.2.1, h.2.2.2.1, ?_⟩
  have := h.2.2.2.2
  unfold TokA at this ⊢
  rw [g.2.2.2.2.1 14 (by omega), g.2.2.2.2.1 15 (by omega), g.2.2.2.2.1 16 (by omega)]
  exact this
theorem caw_of (h : CAt B N L u q σ) : CAw B N u q σ := by
  obtain ⟨T, i, h1, h2, h3, h4, h5, h6, h7, -⟩ := h
  exact ⟨T, i, h1, h2, h3, h4, h5, h6, h7⟩
theorem caw_le (h : CAw B N u q σ) : q ≤ N := by
  obtain ⟨T, i, h1, h2, h3, -⟩ := h
  rw [← h3]; exact tp_le i
theorem caw_tok (h : CAw B N u q σ) : FI σ 12 5 = nI (tkN B N q) := by
  obtain ⟨T, i, h1, h2, h3, h4, h5, -⟩ := h
  exact h5
theorem caw_u (h : CAw B N u q σ) : FI σ 1 1 = nI u := by
  obtain ⟨T, i, h1, h2, h3, h4, h5, h6, h7⟩ := h
  exact h7.1
theorem w140 {k : Nat} (hd : 1 ≤ d) (h : CAw B N u q σ) : ∃ τ, (∀ L, CF L u σ τ) ∧ FI τ 12 2 = nI k ∧ FI τ 12 1 = nI q ∧ Run false d 140 0 [some (.ref 12), some (.int (nI k))] [] σ = some (.inl (some (.int (nI 0)), τ)) := by
  obtain ⟨d, rfl⟩ := dS hd
  obtain ⟨T, i, h1, h2, h3, h4, -⟩ := h
  have := h1.1
  refine ⟨wFI (wFI σ 12 2 (nI k)) 12 1 (nI q), fun L => cf_w (cf_w cf_r (by omega)) (by omega), by rw [FI_n (Or.inr (by decide)), FI_q], FI_q, ?_⟩
  rw [s140_0, h4, inbT (by omega) (by decide), cond_true, is01_0, cond_true, nI_clamp (by omega), (h1.2.2.2.2 i (by omega)).2.1, h3]
theorem w141 (hd : 1 ≤ d) (h : CAw B N u q σ) (hq : q < N) : ∃ τ, (∀ L, CF L u σ τ) ∧ CAw B N u (nxN B N q) τ ∧ Run false d 141 0 [some (.ref 12)] [] σ = some (.inl (none, τ)) := by
  obtain ⟨d, rfl⟩ := dS hd
  obtain ⟨T, i, h1, h2, h3, h4, h5, h6, h7⟩ := h
  have hT := h1.1
  have hi : i < T := by
    rcases Nat.lt_or_ge i T with w | w
    · exact w
    · have : i = T := by omega
      subst this
      rw [h1.2.2.1] at h3
      omega
  have e3 : tpN B N (i + 1) = nxN B N q := by show skp B N (teN B N (tpN B N i)) = _; rw [h3]; rfl
  obtain ⟨k1, k2, k3⟩ := h1.2.2.2.2 (i + 1) (by omega)
  rw [e3] at k1 k2 k3
  have hcf : ∀ L, CF L u σ (wFI (wFI (wFI σ 12 4 (nI (i + 1))) 12 5 (nI (tkN B N (nxN B N q)))) 12 6 (nI (nvN B N (nxN B N q)))) := fun L => cf_w (cf_w (cf_w cf_r (by omega)) (by omega)) (by omega)
  refine ⟨_, hcf, ⟨T, i + 1, toks_cf h1 (hcf 0), by omega, e3, ?_, ?_, FI_q, h7⟩, ?_⟩
  · rw [FI_n (Or.inr (by decide)), FI_n (Or.inr (by decide)), FI_q]
  · rw [FI_n (Or.inr (by decide)), FI_q]
  · rw [s141_0, h1.2.1, h4, nI_s1, oleF hi (by omega), cond_false, nI_add, inbT (by omega) (by decide), cond_true, cond_true, nI_clamp (by omega), k1, k3]
/-- the number of a clause -/
theorem ca_w6 {v : Int32} (h : CAt B N L u q σ) : CAt B N L u q (wAI σ 6 L v) := by
  obtain ⟨T, i, h1, h2, h3, h4, h5, h6, h7, h8, h9⟩ := h
  refine ⟨T, i, ⟨h1.1, h1.2.1, h1.2.2.1, h1.2.2.2.1, ?_⟩, h2, h3, h4, h5, h6, h7, h8, ?_⟩
  · intro j hj
    rw [AI_n (Or.inl (by decide)), AI_n (Or.inl (by decide)), AI_n (Or.inl (by decide))]
    exact h1.2.2.2.2 j hj
  · rw [AI_n (Or.inl (by decide))]; exact h9
theorem ca_L (h : CAt B N L u q σ) : FI σ 1 2 = nI L := by
  obtain ⟨T, i, h1, h2, h3, h4, h5, h6, h7, h8, -⟩ := h
  exact h8
theorem ca_8 (h : CAt B N L u q σ) : AI σ 8 L = nI u := by
  obtain ⟨T, i, h1, h2, h3, h4, h5, h6, h7, h8, h9⟩ := h
  exact h9
theorem c95 {v : Int32} (hd : 1 ≤ d) (hL : L < 176) (h : CAt B N L u q σ) : Run false d 95 0 [some (.ref 1), some (.int v)] [] σ = some (.inl (none, wAI σ 6 L v)) := by
  obtain ⟨d, rfl⟩ := dS hd
  rw [s95_0, ca_L h, inbT hL (by decide), cond_true, nI_clamp (by omega)]
/-- makers or schemes -/
theorem c145 (hd : 2 ≤ d) (hL : L < 176) (h : CAt B N L u q σ) : ∃ τ, (if tkN B N q = 218 ∨ tkN B N q = 219 then CF L u (wAI σ 6 L (nI (tkN B N q - 218))) τ ∧ CAt B N L u (nxN B N q) τ ∧ Run false d 145 0 [some (.ref 12)] [] σ = some (.inl (some (.int (nI 1)), τ)) else CF L u σ τ ∧ FI τ 12 2 = nI 1 ∧ FI τ 12 1 = nI q ∧ Run false d 145 0 [some (.ref 12)] [] σ = some (.inl (some (.int (nI 0)), τ))) := by
  obtain ⟨d, rfl⟩ := dS (show 1 ≤ d by omega)
  have hb := tk_b (B := B) (N := N) (q := q)
  by_cases w : tkN B N q = 218 ∨ tkN B N q = 219
  · obtain ⟨hq, n1, n2⟩ := tk_nx (rfl : tkN B N q = tkN B N q) (by omega)
    obtain ⟨τ, a1, a2, a3⟩ := c141 (d := d) (by omega) (ca_w6 (v := nI (tkN B N q - 218)) h) hq
    refine ⟨τ, ?_⟩
    rw [if_pos w]
    refine ⟨a1, a2, ?_⟩
    rw [s145_0, ca_tok h]
    rcases w with w | w
    · rw [w] at a3 ⊢
      rw [oeqT rfl, cond_true, oeqF (by decide) (by decide) (by decide), cond_false, c95 (by omega) hL h, aft_n, s145_48]
      have a4 : Run false d 141 0 [some (.ref 12)] [] (wAI σ 6 L (nI 0)) = some (.inl (none, τ)) := a3
      rw [a4, aft_n, s145_52, is01_1, cond_true]
    · rw [w] at a3 ⊢
      rw [oeqF (by decide) (by decide) (by decide), cond_false, oeqT rfl, cond_true, cond_true, c95 (by omega) hL h, aft_n, s145_48]
      have a4 : Run false d 141 0 [some (.ref 12)] [] (wAI σ 6 L (nI 1)) = some (.inl (none, τ)) := a3
      rw [a4, aft_n, s145_52, is01_1, cond_true]
  · obtain ⟨τ, a1, a2, a3, a4⟩ := c140 (d := d) (k := 1) (by omega) h
    refine ⟨τ, ?_⟩
    rw [if_neg w]
    refine ⟨a1, a2, a3, ?_⟩
    rw [s145_0, ca_tok h, oeqF (fun e => w (Or.inl e)) hb (by decide), cond_false, oeqF (fun e => w (Or.inr e)) hb (by decide), cond_false, a4, aft_v, s145_25, is01_0, cond_true]
/-- a number from lo to hi -/
theorem c146 {lo hi : Nat} (hd : 2 ≤ d) (hL : L < 176) (hlo : lo < 2 ^ 31) (hhi : hi < 2 ^ 31) (hv : nvN B N q < 2 ^ 31) (h : CAt B N L u q σ) : ∃ τ, (if tkN B N q = 300 ∧ lo ≤ nvN B N q ∧ nvN B N q ≤ hi then CF L u (wAI σ 6 L (nI (nvN B N q))) τ ∧ CAt B N L u (nxN B N q) τ ∧ Run false d 146 0 [some (.ref 12), some (.int (nI lo)), some (.int (nI hi))] [] σ = some (.inl (some (.int (nI 1)), τ)) else CF L u σ τ ∧ FI τ 12 2 = nI (if tkN B N q = 300 then 2 else 1) ∧ FI τ 12 1 = nI q ∧ Run false d 146 0 [some (.ref 12), some (.int (nI lo)), some (.int (nI hi))] [] σ = some (.inl (some (.int (nI 0)), τ))) := by
  obtain ⟨d, rfl⟩ := dS (show 1 ≤ d by omega)
  have hb := tk_b (B := B) (N := N) (q := q)
  by_cases w : tkN B N q = 300
  · by_cases v : lo ≤ nvN B N q ∧ nvN B N q ≤ hi
    · obtain ⟨hq, n1, n2⟩ := tk_nx w (by omega)
      obtain ⟨τ, a1, a2, a3⟩ := c141 (d := d) (by omega) (ca_w6 (v := nI (nvN B N q)) h) hq
      refine ⟨τ, ?_⟩
      rw [if_pos ⟨w, v⟩]
      refine ⟨a1, a2, ?_⟩
      rw [s146_0, ca_tok h, oeqT w, cond_true, ca_val h, oltF v.1 hv, cond_false, oleT v.2 hhi, cond_true, c95 (by omega) hL h, aft_n, s146_49, a3, aft_n, s146_53, is01_1, cond_true]
    · obtain ⟨τ, a1, a2, a3, a4⟩ := c140 (d := d) (k := 2) (by omega) h
      refine ⟨τ, ?_⟩
      rw [if_neg (fun e => v e.2), if_pos w]
      refine ⟨a1, a2, a3, ?_⟩
      rw [s146_0, ca_tok h, oeqT w, cond_true, ca_val h]
      by_cases v2 : nvN B N q < lo
      · rw [oltT v2 hlo, cond_true, a4, aft_v, s146_37, is01_0, cond_true]
      · rw [oltF (by omega) hv, cond_false, oleF (by omega) hv, cond_false, a4, aft_v, s146_37, is01_0, cond_true]
  · obtain ⟨τ, a1, a2, a3, a4⟩ := c140 (d := d) (k := 1) (by omega) h
    refine ⟨τ, ?_⟩
    rw [if_neg (fun e => w e.1), if_neg w]
    refine ⟨a1, a2, a3, ?_⟩
    rw [s146_0, ca_tok h, oeqF w hb (by decide), cond_false, a4, aft_v, s146_15, is01_0, cond_true]
/-- a clause begun -/
def addS (σ : PS) (r c n u : Nat) (k s : Int32) : PS := wAI (wAI (wAI (wAI (wAI (wAI (wFI σ 1 2 (nI c)) 3 r (nI (n + 1))) 4 c k) 5 c s) 6 c (nI 0)) 7 c (nI u)) 8 c (nI u)
theorem c93 {n : Nat} (hd : 1 ≤ d) (hr : r ≤ 10) (h0 : FI σ 1 0 = nI r) (h3 : AI σ 3 r = nI n) (hn : n ≤ 16) : Run false d 93 0 [some (.ref 1)] [] σ = some (.inl (some (.int (if n < 16 then nI 0 else nI 1)), σ)) := by
  obtain ⟨d, rfl⟩ := dS hd
  rw [s93_0, h0, oleF (show r < 11 by omega) (by omega), cond_false, inbT (by omega) (by decide), cond_true, nI_clamp (by omega), h3, is01_0, is01_1]
  by_cases w : n < 16
  · rw [oltT w (by decide), if_pos w]; rfl
  · rw [oltF (by omega) (by omega), if_neg w]; rfl
theorem c94 {n : Nat} {k s : Int32} (hd : 2 ≤ d) (hr : r ≤ 10) (h0 : FI σ 1 0 = nI r) (h3 : AI σ 3 r = nI n) (hn : n < 16) (hu : FI σ 1 1 = nI u) : Run false d 94 0 [some (.ref 1), some (.int k), some (.int s)] [] σ = some (.inl (none, addS σ r (16 * r + n) n u k s)) := by
  obtain ⟨d, rfl⟩ := dS (show 1 ≤ d by omega)
  have e : r * 16 + n = 16 * r + n := by omega
  rw [s94_0, c93 (by omega) hr h0 h3 (by omega), if_pos hn, aft_v, s94_4, z00, cond_true, h0, inbT (by omega) (by decide), cond_true, cond_true, cond_true, nI_clamp (by omega), h3, hu, nI_mul, nI_add, e, inbT (by omega) (by decide), cond_true, cond_true, cond_true, cond_true, cond_true, nI_clamp (by omega), nI_add]
  rfl
theorem kf_add {n : Nat} {k s : Int32} : KF r c u σ (addS σ r c n u k s) := by
  unfold addS
  refine ⟨fun o k a b => ?_, rfl, rfl, rfl, fun o a => ?_, fun o j a b e => ?_, fun j a => ?_, fun j a => ?_⟩
  · rw [FI_aa, FI_aa, FI_aa, FI_aa, FI_aa, FI_aa, FI_n (by omega)]
  · funext j
    rw [AI_n (by omega), AI_n (by omega), AI_n (by omega), AI_n (by omega), AI_n (by omega), AI_n (by omega), AI_ff]
  · rw [AI_n (by omega), AI_n (by omega), AI_n (by omega), AI_n (by omega), AI_n (by omega), AI_n (by omega), AI_ff]
  · rw [AI_n (by omega), AI_n (by omega), AI_n (by omega), AI_n (by omega), AI_n (by omega), AI_n (by omega), AI_ff]
  · rw [AI_n (by omega), AI_n (by omega), AI_n (by omega), AI_n (by omega), AI_n (by omega), AI_n (by omega), AI_ff]
theorem ca_add {n : Nat} {k s : Int32} (h : CAw B N u q σ) : CAt B N c u q (addS σ r c n u k s) := by
  obtain ⟨T, i, h1, h2, h3, h4, h5, h6, h7⟩ := h
  have hk := kf_add (r := r) (c := c) (u := u) (n := n) (k := k) (s := s) (σ := σ)
  refine ⟨T, i, toks_kf h1 hk, h2, h3, ?_, ?_, ?_, ?_, ?_, AI_q⟩
  · unfold addS; rw [FI_aa, FI_aa, FI_aa, FI_aa, FI_aa, FI_aa, FI_n (by omega)]; exact h4
  · unfold addS; rw [FI_aa, FI_aa, FI_aa, FI_aa, FI_aa, FI_aa, FI_n (by omega)]; exact h5
  · unfold addS; rw [FI_aa, FI_aa, FI_aa, FI_aa, FI_aa, FI_aa, FI_n (by omega)]; exact h6
  · unfold addS; rw [FI_aa, FI_aa, FI_aa, FI_aa, FI_aa, FI_aa, FI_n (by omega)]; exact ⟨h7.1, h7.2⟩
  · unfold addS; rw [FI_aa, FI_aa, FI_aa, FI_aa, FI_aa, FI_aa, FI_q]
theorem add_v {n : Nat} {k s : Int32} : AI (addS σ r c n u k s) 3 r = nI (n + 1) ∧ AI (addS σ r c n u k s) 4 c = k ∧ AI (addS σ r c n u k s) 5 c = s ∧ AI (addS σ r c n u k s) 6 c = nI 0 ∧ AI (addS σ r c n u k s) 7 c = nI u := by
  unfold addS
  refine ⟨?_, ?_, ?_, ?_, ?_⟩
  · rw [AI_n (by omega), AI_n (by omega), AI_n (by omega), AI_n (by omega), AI_n (by omega), AI_q]
  · rw [AI_n (by omega), AI_n (by omega), AI_n (by omega), AI_n (by omega), AI_q]
  · rw [AI_n (by omega), AI_n (by omega), AI_n (by omega), AI_q]
  · rw [AI_n (by omega), AI_n (by omega), AI_q]
  · rw [AI_n (by omega), AI_q]
end KC
