/-! THE PURE PROOFS: reading, both sides by tokens: leaves -/
theorem wc_r {v : Nat} : ∀ (l : List Nat) k, wcA v l k = 302 ∨ (k ≤ wcA v l k ∧ wcA v l k < k + l.length ∧ l.getD (wcA v l k - k) 0 = v) := by
  intro l
  induction l with
  | nil => intro k; exact Or.inl rfl
  | cons a l ih =>
    intro k
    unfold wcA
    by_cases q : v = a
    · rw [if_pos q]
      refine Or.inr ⟨Nat.le_refl _, by rw [List.length_cons]; omega, ?_⟩
      rw [Nat.sub_self, q]; rfl
    · rw [if_neg q]
      rcases ih (k + 1) with w | ⟨w1, w2, w3⟩
      · exact Or.inl w
      · refine Or.inr ⟨by omega, by rw [List.length_cons]; omega, ?_⟩
        obtain ⟨j, hj⟩ : ∃ j, wcA v l (k + 1) = k + 1 + j := ⟨wcA v l (k + 1) - (k + 1), by omega⟩
        rw [hj] at w3 ⊢
        rw [show k + 1 + j - (k + 1) = j by omega] at w3
        rw [show k + 1 + j - k = j + 1 by omega]
        exact w3
theorem wc_at : ∀ (l : List Nat) k j, l.Nodup → j < l.length → wcA (l.getD j 0) l k = k + j := by
  intro l
  induction l with
  | nil => intro k j _ h; exact absurd h (Nat.not_lt_zero _)
  | cons a l ih =>
    intro k j hn hj
    rw [List.nodup_cons] at hn
    cases j with
    | zero =>
      show (if a = a then k else _) = k + 0
      rw [if_pos rfl, Nat.add_zero]
    | succ j =>
      have hj' : j < l.length := by rw [List.length_cons] at hj; omega
      have e : (a :: l).getD (j + 1) 0 = l.getD j 0 := rfl
      rw [e]
      have ne : l.getD j 0 ≠ a := fun w => hn.1 (by
        rw [← w, List.getD_eq_getElem?_getD, List.getElem?_eq_getElem hj']
        exact List.getElem_mem hj')
      unfold wcA
      rw [if_neg ne, ih (k + 1) j hn.2 hj']
      omega
theorem WV_nd : WV.Nodup := by decide +kernel
theorem WV_0 : WV.all (fun v => Nat.blt 0 v && Nat.blt v (2 ^ 35)) = true := by decide +kernel
theorem wc_iff {v k : Nat} (hk : k < 26) : wcode v = 200 + k ↔ v = WV.getD k 0 := by
  constructor
  · intro h
    rcases wc_r (v := v) WV 200 with w | ⟨w1, w2, w3⟩
    · have : wcode v = 302 := w
      omega
    · have e : wcA v WV 200 = 200 + k := h
      rw [e, Nat.add_sub_cancel_left] at w3
      exact w3.symm
  · intro h
    rw [h]
    exact wc_at WV 200 k WV_nd hk
theorem wc_ge {v : Nat} : 200 ≤ wcode v ∧ wcode v ≤ 302 ∧ (wcode v < 226 ∨ wcode v = 302) := by
  rcases wc_r (v := v) WV 200 with w | ⟨w1, w2, -⟩
  · have : wcode v = 302 := w
    omega
  · have e : WV.length = 26 := rfl
    have w1' : 200 ≤ wcode v := w1
    have w2' : wcode v < 200 + WV.length := w2
    omega
theorem strS_ok : strS.all (fun c => !isDg c && !isLt c && Nat.blt c 100 && Nat.blt 0 c) = true := by decide +kernel
theorem sg_r {c : Nat} (h : strS.contains c = true) : isDg c = false ∧ isLt c = false ∧ c < 100 ∧ 0 < c := by
  have := List.all_eq_true.mp strS_ok c (List.contains_iff_mem.mp h)
  rw [Bool.and_eq_true, Bool.and_eq_true, Bool.and_eq_true] at this
  obtain ⟨⟨⟨a, b⟩, c⟩, d⟩ := this
  refine ⟨?_, ?_, Nat.blt_eq.mp c, Nat.blt_eq.mp d⟩
  · simpa using a
  · simpa using b
section L1
variable {B : Nat → Nat} {N q : Nat}
theorem tk_num : tkN B N q = 300 ↔ (q < N ∧ isDg (B q) = true) := by
  unfold tkN
  by_cases w : N ≤ q
  · rw [if_pos w]; exact ⟨fun h => by omega, fun h => by omega⟩
  · rw [if_neg w]
    by_cases d : isDg (B q) = true
    · rw [if_pos d]; exact ⟨fun _ => ⟨by omega, d⟩, fun _ => rfl⟩
    · rw [if_neg d]
      constructor
      · intro h
        exfalso
        by_cases l : isLt (B q) = true
        · rw [if_pos l] at h
          have := wc_ge (v := wvN B N q)
          omega
        · rw [if_neg l] at h
          by_cases s : strS.contains (B q) = true
          · rw [if_pos s] at h
            have := sg_r s
            omega
          · rw [if_neg s] at h; omega
      · intro h; exact absurd h.2 d
theorem tk_end : tkN B N q = 301 ↔ N ≤ q := by
  unfold tkN
  by_cases w : N ≤ q
  · rw [if_pos w]; exact ⟨fun _ => w, fun _ => rfl⟩
  · rw [if_neg w]
    refine ⟨fun h => ?_, fun h => absurd h w⟩
    exfalso
    by_cases d : isDg (B q) = true
    · rw [if_pos d] at h; omega
    · rw [if_neg d] at h
      by_cases l : isLt (B q) = true
      · rw [if_pos l] at h
        have := wc_ge (v := wvN B N q)
        omega
      · rw [if_neg l] at h
        by_cases s : strS.contains (B q) = true
        · rw [if_pos s] at h
          have := sg_r s
          omega
        · rw [if_neg s] at h; omega
theorem tk_sg {c : Nat} (h : strS.contains c = true) : tkN B N q = c ↔ (q < N ∧ B q = c) := by
  obtain ⟨s1, s2, s3, s4⟩ := sg_r h
  unfold tkN
  by_cases w : N ≤ q
  · rw [if_pos w]; exact ⟨fun h => by omega, fun h => by omega⟩
  · rw [if_neg w]
    constructor
    · intro h2
      refine ⟨by omega, ?_⟩
      by_cases d : isDg (B q) = true
      · rw [if_pos d] at h2; omega
      · rw [if_neg d] at h2
        by_cases l : isLt (B q) = true
        · rw [if_pos l] at h2
          have := wc_ge (v := wvN B N q)
          omega
        · rw [if_neg l] at h2
          by_cases s : strS.contains (B q) = true
          · rw [if_pos s] at h2; exact h2
          · rw [if_neg s] at h2; omega
    · rintro ⟨-, e⟩
      rw [e, if_neg (by rw [s1]; decide), if_neg (by rw [s2]; decide), if_pos h]
theorem te_sg {c : Nat} (h : strS.contains c = true) (e : tkN B N q = c) : teN B N q = q + 1 := by
  obtain ⟨s1, s2, s3, s4⟩ := sg_r h
  obtain ⟨e1, e2⟩ := (tk_sg h).mp e
  unfold teN
  rw [if_neg (by omega), e2, if_neg (by rw [s1]; decide), if_neg (by rw [s2]; decide)]
theorem ch_sg {c : Nat} (h : strS.contains c = true) : chN B N q = c ↔ tkN B N q = c := by
  obtain ⟨s1, s2, s3, s4⟩ := sg_r h
  rw [tk_sg h]
  unfold chN
  by_cases w : q < N
  · rw [if_pos w]; exact ⟨fun e => ⟨w, e⟩, fun e => e.2⟩
  · rw [if_neg w]; exact ⟨fun e => by omega, fun e => absurd e.1 w⟩
theorem tk_lt {k : Nat} (hk : k < 26) (e : tkN B N q = 200 + k) : q < N ∧ isDg (B q) = false ∧ isLt (B q) = true := by
  unfold tkN at e
  by_cases w : N ≤ q
  · rw [if_pos w] at e; omega
  · rw [if_neg w] at e
    refine ⟨by omega, ?_⟩
    by_cases d : isDg (B q) = true
    · rw [if_pos d] at e; omega
    · rw [if_neg d] at e
      refine ⟨by simpa using d, ?_⟩
      by_cases l : isLt (B q) = true
      · exact l
      · rw [if_neg l] at e
        by_cases s : strS.contains (B q) = true
        · rw [if_pos s] at e
          have := sg_r s
          omega
        · rw [if_neg s] at e; omega
theorem te_lt {k : Nat} (hk : k < 26) (e : tkN B N q = 200 + k) : teN B N q = lte B N q := by
  obtain ⟨a, b, c⟩ := tk_lt hk e
  unfold teN
  rw [if_neg (by omega), if_neg (by rw [b]; decide), if_pos c]
theorem te_num (e : tkN B N q = 300) : teN B N q = dge B N q := by
  obtain ⟨a, b⟩ := tk_num.mp e
  unfold teN
  rw [if_neg (by omega), if_pos b]
theorem WV_pos {k : Nat} (hk : k < 26) : 0 < WV.getD k 0 ∧ WV.getD k 0 < 2 ^ 35 := by
  have hl : k < WV.length := hk
  have e : WV.getD k 0 = WV[k] := by rw [List.getD_eq_getElem?_getD, List.getElem?_eq_getElem hl]; rfl
  have := List.all_eq_true.mp WV_0 WV[k] (List.getElem_mem hl)
  rw [Bool.and_eq_true] at this
  rw [e]
  exact ⟨Nat.blt_eq.mp this.1, Nat.blt_eq.mp this.2⟩
theorem wv_iff {k : Nat} (hk : k < 26) : wvN B N q = WV.getD k 0 ↔ tkN B N q = 200 + k := by
  constructor
  · intro h
    have hp := (WV_pos hk).1
    have hn : lte B N q ≠ q := fun e => by
      unfold wvN at h
      rw [e, Nat.sub_self, if_pos (by decide)] at h
      have : wlN B q 0 = 0 := rfl
      omega
    obtain ⟨a1, a2, a3, a4⟩ := lte_ok (B := B) (N := N) (p := q)
    obtain ⟨u1, u2⟩ := a3 q (Nat.le_refl _) (by omega)
    unfold tkN
    rw [if_neg (by omega)]
    have nd : ¬ isDg (B q) = true := fun d => by
      have := dg_lt d
      rw [u2] at this; cases this
    rw [if_neg nd, if_pos u2]
    exact (wc_iff hk).mpr h
  · intro h
    obtain ⟨a, b, c⟩ := tk_lt hk h
    unfold tkN at h
    rw [if_neg (by omega), if_neg (by rw [b]; decide), if_pos c] at h
    exact (wc_iff hk).mp h
theorem wv_lt : wvN B N q < 2 ^ 35 := by
  unfold wvN
  by_cases w : lte B N q - q ≤ 7
  · rw [if_pos w]
    obtain ⟨a1, a2, a3, a4⟩ := lte_ok (B := B) (N := N) (p := q)
    exact wl_b w (fun i hi => (a3 (q + i) (by omega) (by omega)).2)
  · rw [if_neg w]; decide
/-- the model's comparison of a word -/
theorem lg_w {k : Nat} (hk : k < 26) {W : Nat} (hW : WV.getD k 0 = W) : obl (lg_cmp (lN (wvN B N q)) (lN W) = nI 0) = Nat.beq (tkN B N q) (200 + k) := by
  have hp := WV_pos hk
  rw [hW] at hp
  have hv := wv_lt (B := B) (N := N) (q := q)
  rw [lgEq, LLe (by omega) (by omega)]
  have e := wv_iff (B := B) (N := N) (q := q) hk
  rw [hW] at e
  by_cases c : wvN B N q = W
  · rw [Nbt c, Nbt (e.mp c)]
  · rw [Nbf c, Nbf (fun w => c (e.mpr w))]
theorem ch_b {c : Nat} (h : strS.contains c = true) (hB : ∀ j, j < N → B j ≤ 255) : obl (nI (chN B N q) = nI c) = Nat.beq (tkN B N q) c := by
  have hc := sg_r h
  have := ch_le (q := q) hB
  rw [Oeb (by omega) (by omega)]
  by_cases w : chN B N q = c
  · rw [Nbt w, Nbt ((ch_sg h).mp w)]
  · rw [Nbf w, Nbf (fun u => w ((ch_sg h).mpr u))]
theorem tk_b : tkN B N q < 2 ^ 31 := by
  unfold tkN
  split
  · decide
  · split
    · decide
    · split
      · have := wc_ge (v := wvN B N q); omega
      · split
        · have := sg_r (by assumption); omega
        · decide
end L1
/-! the class -/
def CF (L u : Nat) (σ τ : PS) : Prop := (∀ o k, ¬ (o = 1 ∧ k = 1) → ¬ (o = 12 ∧ 1 ≤ k ∧ k ≤ 6 ∧ k ≠ 3) → FI τ o k = FI σ o k) ∧ FL τ = FL σ ∧ AL τ = AL σ ∧ XX τ = XX σ ∧ (∀ o, o ≠ 8 → o ≠ 9 → AI τ o = AI σ o) ∧ (∀ j, j ≠ L → AI τ 8 j = AI σ 8 j) ∧ ∀ j, j < u → AI τ 9 j = AI σ 9 j
def TokS (B : Nat → Nat) (N T : Nat) (τ : PS) : Prop := T ≤ 400 ∧ FI τ 12 3 = nI (T + 1) ∧ tpN B N T = N ∧ (∀ j, j < T → tpN B N j < N) ∧ TokA B N τ (T + 1)
def CAt (B : Nat → Nat) (N L u q : Nat) (τ : PS) : Prop := ∃ T i, TokS B N T τ ∧ i ≤ T ∧ tpN B N i = q ∧ FI τ 12 4 = nI i ∧ FI τ 12 5 = nI (tkN B N q) ∧ FI τ 12 6 = nI (nvN B N q) ∧ (FI τ 1 1 = nI u ∧ FI τ 12 1 = -1) ∧ FI τ 1 2 = nI L ∧ AI τ 8 L = nI u
section C1
variable {B : Nat → Nat} {N L u q d : Nat} {σ τ υ : PS}
theorem cf_r : CF L u σ σ := ⟨fun _ _ _ _ => rfl, rfl, rfl, rfl, fun _ _ _ => rfl, fun _ _ => rfl, fun _ _ => rfl⟩
theorem cf_t {u' : Nat} (h : CF L u σ τ) (g : CF L u' τ υ) (hu : u ≤ u') : CF L u σ υ := ⟨fun o k a b => (g.1 o k a b).trans (h.1 o k a b), g.2.1.trans h.2.1, g.2.2.1.trans h.2.2.1, g.2.2.2.1.trans h.2.2.2.1, fun o a b => (g.2.2.2.2.1 o a b).trans (h.2.2.2.2.1 o a b), fun j a => (g.2.2.2.2.2.1 j a).trans (h.2.2.2.2.2.1 j a), fun j a => (g.2.2.2.2.2.2 j (by omega)).trans (h.2.2.2.2.2.2 j a)⟩
theorem cf_w {k : Nat} {v : Int32} (h : CF L u σ τ) (hk : 1 ≤ k ∧ k ≤ 6 ∧ k ≠ 3) : CF L u σ (wFI τ 12 k v) := by
  refine ⟨fun o j a b => ?_, h.2⟩
  rw [FI_n (by omega)]
  exact h.1 o j a b
theorem toks_cf {T : Nat} (h : TokS B N T σ) (g : CF L u σ τ) : TokS B N T τ := by
  refine ⟨h.1, (g.1 12 3 (by omega) (by omega)).trans h.2.1, h.2.2.1, h.2.2.2.1, ?_⟩
  have := h.2.2.2.2
  unfold TokA at this ⊢
  rw [g.2.2.2.2.1 14 (by decide) (by decide), g.2.2.2.2.1 15 (by decide) (by decide), g.2.2.2.2.1 16 (by decide) (by decide)]
  exact this
theorem ca_le (h : CAt B N L u q σ) : q ≤ N := by
  obtain ⟨T, i, h1, h2, h3, -⟩ := h
  rw [← h3]; exact tp_le i
theorem c140 {k : Nat} (hd : 1 ≤ d) (h : CAt B N L u q σ) : ∃ τ, CF L u σ τ ∧ FI τ 12 2 = nI k ∧ FI τ 12 1 = nI q ∧ Run false d 140 0 [some (.ref 12), some (.int (nI k))] [] σ = some (.inl (some (.int (nI 0)), τ)) := by
  obtain ⟨d, rfl⟩ := dS hd
  obtain ⟨T, i, h1, h2, h3, h4, -⟩ := h
  have := h1.1
  refine ⟨wFI (wFI σ 12 2 (nI k)) 12 1 (nI q), cf_w (cf_w cf_r (by omega)) (by omega), by rw [FI_n (Or.inr (by decide)), FI_q], FI_q, ?_⟩
  rw [s140_0, h4, inbT (by omega) (by decide), cond_true, is01_0, cond_true, nI_clamp (by omega), (h1.2.2.2.2 i (by omega)).2.1, h3]
theorem c141 (hd : 1 ≤ d) (h : CAt B N L u q σ) (hq : q < N) : ∃ τ, CF L u σ τ ∧ CAt B N L u (nxN B N q) τ ∧ Run false d 141 0 [some (.ref 12)] [] σ = some (.inl (none, τ)) := by
  obtain ⟨d, rfl⟩ := dS hd
  obtain ⟨T, i, h1, h2, h3, h4, h5, h6, h7, h8, h9⟩ := h
  have hT := h1.1
  have hi : i < T := by
    rcases Nat.lt_or_ge i T with w | w
    · exact w
    · have : i = T := by omega
      subst this
      rw [h1.2.2.1] at h3
      omega
  have e3 : tpN B N (i + 1) = nxN B N q := by show skp B N (teN B N (tpN B N i)) = _; rw [h3]; rfl
  obtain ⟨k1, k2, k3⟩ := h1.2.2.2.2 (i + 1) (by omega)
  rw [e3] at k1 k2 k3
  refine ⟨wFI (wFI (wFI σ 12 4 (nI (i + 1))) 12 5 (nI (tkN B N (nxN B N q)))) 12 6 (nI (nvN B N (nxN B N q))), cf_w (cf_w (cf_w cf_r (by omega)) (by omega)) (by omega), ⟨T, i + 1, toks_cf (L := L) (u := u) h1 (cf_w (cf_w (cf_w cf_r (by omega)) (by omega)) (by omega)), by omega, e3, ?_, ?_, FI_q, h7, h8, h9⟩, ?_⟩
  · rw [FI_n (Or.inr (by decide)), FI_n (Or.inr (by decide)), FI_q]
  · rw [FI_n (Or.inr (by decide)), FI_q]
  · rw [s141_0, h1.2.1, h4, nI_s1, oleF hi (by omega), cond_false, nI_add, inbT (by omega) (by decide), cond_true, cond_true, nI_clamp (by omega), k1, k3]
theorem c142 {c : Nat} (hd : 2 ≤ d) (hc : c < 2 ^ 31) (h : CAt B N L u q σ) (hN : c ≠ 301) : ∃ τ, CF L u σ τ ∧ (if tkN B N q = c then CAt B N L u (nxN B N q) τ ∧ Run false d 142 0 [some (.ref 12), some (.int (nI c))] [] σ = some (.inl (some (.int (nI 1)), τ)) else FI τ 12 2 = nI 1 ∧ FI τ 12 1 = nI q ∧ Run false d 142 0 [some (.ref 12), some (.int (nI c))] [] σ = some (.inl (some (.int (nI 0)), τ))) := by
  obtain ⟨d, rfl⟩ := dS (show 1 ≤ d by omega)
  have h0 := h
  obtain ⟨T, i, h1, h2, h3, h4, h5, -⟩ := h
  have hb := tk_b (B := B) (N := N) (q := q)
  by_cases w : tkN B N q = c
  · have hq : q < N := Nat.lt_of_not_le (fun v => by rw [tk_end.mpr v] at w; omega)
    obtain ⟨τ, a1, a2, a3⟩ := c141 (d := d) (by omega) h0 hq
    refine ⟨τ, a1, ?_⟩
    rw [if_pos w]
    refine ⟨a2, ?_⟩
    rw [s142_0, h5, oeqT w, cond_true, a3, aft_n, s142_18, is01_1, cond_true]
  · obtain ⟨τ, a1, a2, a3, a4⟩ := c140 (d := d) (k := 1) (by omega) h0
    refine ⟨τ, a1, ?_⟩
    rw [if_neg w]
    refine ⟨a2, a3, ?_⟩
    rw [s142_0, h5, oeqF w hb hc, cond_false, a4, aft_v, s142_13, is01_0, cond_true]
theorem c143 {c o : Nat} (hd : 2 ≤ d) (hc : c < 2 ^ 31) (ho : o ≤ 8) (h : CAt B N L u q σ) (hN : c ≠ 301) : ∃ τ, CF L u σ τ ∧ (if tkN B N q = c ∧ o < 8 then CAt B N L u (nxN B N q) τ ∧ Run false d 143 0 [some (.ref 12), some (.int (nI c)), some (.int (nI o))] [] σ = some (.inl (some (.int (nI 1)), τ)) else FI τ 12 2 = nI (if tkN B N q = c then 3 else 1) ∧ FI τ 12 1 = nI q ∧ Run false d 143 0 [some (.ref 12), some (.int (nI c)), some (.int (nI o))] [] σ = some (.inl (some (.int (nI 0)), τ))) := by
  obtain ⟨d, rfl⟩ := dS (show 1 ≤ d by omega)
  have h0 := h
  obtain ⟨T, i, h1, h2, h3, h4, h5, -⟩ := h
  have hb := tk_b (B := B) (N := N) (q := q)
  by_cases w : tkN B N q = c
  · by_cases w2 : o < 8
    · have hq : q < N := Nat.lt_of_not_le (fun v => by rw [tk_end.mpr v] at w; omega)
      obtain ⟨τ, a1, a2, a3⟩ := c141 (d := d) (by omega) h0 hq
      refine ⟨τ, a1, ?_⟩
      rw [if_pos ⟨w, w2⟩]
      refine ⟨a2, ?_⟩
      rw [s143_0, h5, oeqT w, cond_true, oltT w2 (by decide), cond_true, a3, aft_n, s143_30, is01_1, cond_true]
    · obtain ⟨τ, a1, a2, a3, a4⟩ := c140 (d := d) (k := 3) (by omega) h0
      refine ⟨τ, a1, ?_⟩
      rw [if_neg (fun v => w2 v.2), if_pos w]
      refine ⟨a2, a3, ?_⟩
      rw [s143_0, h5, oeqT w, cond_true, oltF (by omega) (by omega), cond_false, a4, aft_v, s143_25, is01_0, cond_true]
  · obtain ⟨τ, a1, a2, a3, a4⟩ := c140 (d := d) (k := 1) (by omega) h0
    refine ⟨τ, a1, ?_⟩
    rw [if_neg (fun v => w v.1), if_neg w]
    refine ⟨a2, a3, ?_⟩
    rw [s143_0, h5, oeqF w hb hc, cond_false, a4, aft_v, s143_13, is01_0, cond_true]
theorem c96 {v : Int32} (hd : 1 ≤ d) (hL : L < 176) (hu : u < 4400) (h : CAt B N L u q σ) : ∃ τ, CF L u σ τ ∧ CAt B N L (u + 1) q τ ∧ AI τ 9 u = v ∧ Run false d 96 0 [some (.ref 1), some (.int v)] [] σ = some (.inl (none, τ)) := by
  obtain ⟨d, rfl⟩ := dS hd
  obtain ⟨T, i, h1, h2, h3, h4, h5, h6, h7, h8, h9⟩ := h
  have hcf : CF L u σ (wAI (wFI (wAI σ 9 u v) 1 1 (nI (u + 1))) 8 L (nI (u + 1))) := by
    refine ⟨fun o k a b => ?_, rfl, rfl, rfl, fun o a b => ?_, fun j a => ?_, fun j a => ?_⟩
    · show FI (wFI (wAI σ 9 u v) 1 1 (nI (u + 1))) o k = _
      rw [FI_n (by omega)]; rfl
    · funext j
      rw [AI_n (Or.inl a), AI_ff, AI_n (Or.inl b)]
    · rw [AI_n (Or.inr a), AI_ff, AI_n (Or.inl (by decide))]
    · rw [AI_n (Or.inl (by decide)), AI_ff, AI_n (Or.inr (by omega))]
  refine ⟨_, hcf, ⟨T, i, toks_cf h1 hcf, h2, h3, h4, h5, h6, ⟨by rw [FI_aa, FI_q], h7.2⟩, ?_, AI_q⟩, ?_, ?_⟩
  · show FI (wFI (wAI σ 9 u v) 1 1 (nI (u + 1))) 1 2 = _
    rw [FI_n (Or.inr (by decide))]; exact h8
  · rw [AI_n (Or.inl (by decide)), AI_ff, AI_q]
  · rw [s96_0, h7.1, h8, oleF hu (by decide), cond_false, inbT hu (by decide), cond_true, inbT hL (by decide), cond_true, nI_clamp (by omega), nI_clamp (by omega), nI_add]
end C1
/-! the model -/
def MAt (B : Nat → Nat) (N r s o q : Nat) (σ : PS) : Prop := MB B N σ ∧ FI σ 85 5 = -1 ∧ (∃ a, a ≤ N ∧ skp B N a = q ∧ FI σ 85 4 = nI a) ∧ FI σ 85 7 = nI o ∧ FI σ 85 8 = nI s ∧ FI σ 85 9 = nI r ∧ r ≤ 10
section M2
variable {B : Nat → Nat} {N r s o q d : Nat} {σ τ υ : PS}
theorem ma_at {a : Nat} (h : MAt B N r s o q σ) (g : At1 σ τ a) (ha : a ≤ N) {q' : Nat} (hq : skp B N a = q') : MAt B N r s o q' τ := by
  obtain ⟨h1, h2, -, h4, h5, h6, h7⟩ := h
  exact ⟨MB_at h1 g, (at_F g (Or.inr (by decide))).trans h2, ⟨a, ha, hq, g.2.1⟩, (at_F g (Or.inr (by decide))).trans h4, (at_F g (Or.inr (by decide))).trans h5, (at_F g (Or.inr (by decide))).trans h6, h7⟩
theorem ma_le (h : MAt B N r s o q σ) : q ≤ N := by
  obtain ⟨-, -, ⟨a, h1, h2, -⟩, -⟩ := h
  rw [← h2]; exact skp_ok.2.1 h1
theorem ma_self (h : MAt B N r s o q σ) : skp B N q = q := by
  obtain ⟨-, -, ⟨a, h1, h2, -⟩, -⟩ := h
  exact skp_self h2 h1
/-- here: the place is the token's -/
theorem m174 (hd : 1 ≤ d) (hN : N ≤ 400) (hB : ∀ j, j < N → B j ≤ 255) (h : MAt B N r s o q σ) : ∃ τ, At1 σ τ q ∧ MAt B N r s o q τ ∧ FI τ 85 4 = nI q ∧ Run false d 174 0 [some (.ref 85)] [] σ = some (.inl (some (.int (nI (chN B N q))), τ)) := by
  have h0 := h
  obtain ⟨h1, h2, ⟨a, a1, a2, a3⟩, -⟩ := h
  obtain ⟨τ, t1, t2⟩ := c174 (d := d) hd hN h1 hB a3 a1 a2
  exact ⟨τ, t1, ma_at h0 t1 (ma_le h0) (ma_self h0), t1.2.1, t2⟩
theorem m177 (hd : 2 ≤ d) (hN : N ≤ 400) (hB : ∀ j, j < N → B j ≤ 255) (h : MAt B N r s o q σ) : ∃ τ, At1 σ τ q ∧ MAt B N r s o q τ ∧ FI τ 85 4 = nI q ∧ Run false d 177 0 [some (.ref 85), none, none, none, none] [] σ = some (.inl (some (.long (lN (wvN B N q))), τ)) := by
  have h0 := h
  obtain ⟨h1, h2, ⟨a, a1, a2, a3⟩, -⟩ := h
  obtain ⟨τ, t1, t2⟩ := c177 (d := d) hd hN h1 hB a3 a1 a2
  exact ⟨τ, t1, ma_at h0 t1 (ma_le h0) (ma_self h0), t1.2.1, t2⟩
/-- behind a word that has been looked at -/
theorem m178 {k : Nat} (hd : 2 ≤ d) (hN : N ≤ 400) (hB : ∀ j, j < N → B j ≤ 255) (h : MAt B N r s o q σ) (e : FI σ 85 4 = nI q) (hk : k < 26) (ht : tkN B N q = 200 + k) : ∃ τ, MF (400 * r + s) σ τ ∧ MAt B N r s o (nxN B N q) τ ∧ Run false d 178 0 [some (.ref 85)] [] σ = some (.inl (none, τ)) := by
  obtain ⟨τ, t1, t2⟩ := c178 (d := d) hd hN h.1 hB e (ma_le h)
  refine ⟨τ, mf_at t1, ma_at h t1 (lte_ok.2.1 (ma_le h)) ?_, t2⟩
  unfold nxN
  rw [te_lt hk ht]
theorem m180 {c : Nat} (hd : 2 ≤ d) (hN : N ≤ 400) (hB : ∀ j, j < N → B j ≤ 255) (hc : strS.contains c = true) (h : MAt B N r s o q σ) : ∃ τ, (if tkN B N q = c then MF (400 * r + s) σ τ ∧ MAt B N r s o (nxN B N q) τ else Bd (400 * r + s) σ τ 1 q) ∧ Run false d 180 0 [some (.ref 85), some (.int (nI c))] [] σ = some (.inl (none, τ)) := by
  obtain ⟨d, rfl⟩ := dS (show 1 ≤ d by omega)
  obtain ⟨τ, t1, t2, t3, t4⟩ := m174 (d := d) (by omega) hN hB h
  have e5 : FI τ 85 5 = -1 := t2.2.1
  rw [s180_0, c172_t (by omega) h.2.1, aft_v, s180_4, z10, cond_false, t4, aft_v, s180_11, ch_b hc hB]
  by_cases w : tkN B N q = c
  · rw [Nbt w, cond_true, s180_24, c172_t (by omega) e5, aft_v, s180_28, z10, cond_false, t3, nI_add]
    have hq := ((tk_sg hc).mp w).1
    have t5 : At1 σ (wFI τ 85 4 (nI (q + 1))) (q + 1) := at_w t1
    refine ⟨_, ?_, rfl⟩
    rw [if_pos w]
    refine ⟨mf_at t5, ma_at h t5 (by omega) ?_⟩
    unfold nxN
    rw [te_sg hc w]
  · rw [Nbf w, cond_false, t3, c173_t (by omega) e5, aft_n, s180_24]
    have b := bd_w (s := 400 * r + s) (k := 1) (p := q) (mf_at (s := 400 * r + s) t1)
    have := ma_le h
    rw [c172_f (by omega) b.2.1 (by omega), aft_v, s180_28, z00, cond_true]
    refine ⟨_, ?_, rfl⟩
    rw [if_neg w]; exact b
theorem m180_b {c : Int32} {p : Nat} (hd : 2 ≤ d) (h : FI σ 85 5 = nI p) (hp : p < 2 ^ 31) : Run false d 180 0 [some (.ref 85), some (.int c)] [] σ = some (.inl (none, σ)) := by
  obtain ⟨d, rfl⟩ := dS (show 1 ≤ d by omega)
  rw [s180_0, c172_f (by omega) h hp, aft_v, s180_4, z00, cond_true, s180_24, c172_f (by omega) h hp, aft_v, s180_28, z00, cond_true]
theorem m181 {a b : Nat} (hd : 2 ≤ d) (hs : s < 400) (h : MAt B N r s o q σ) : ∃ τ, MF (400 * r + s) σ τ ∧ MAt B N r (s + 1) o q τ ∧ AI τ 94 (400 * r + s) = nI a ∧ AI τ 95 (400 * r + s) = nI b ∧ Run false d 181 0 [some (.ref 85), some (.int (nI a)), some (.int (nI b))] [] σ = some (.inl (none, τ)) := by
  obtain ⟨d, rfl⟩ := dS (show 1 ≤ d by omega)
  have h0 := h
  obtain ⟨h1, h2, h3, h4, h5, h6, h7⟩ := h
  have hm : MF (400 * r + s) σ (wFI (wAI (wAI σ 94 (400 * r + s) (nI a)) 95 (400 * r + s) (nI b)) 85 8 (nI (s + 1))) := by
    refine ⟨fun o k n => ?_, rfl, rfl, rfl, fun o a b => ?_, fun j hj => ⟨?_, ?_⟩⟩
    · rw [FI_n (by omega)]; rfl
    · funext j
      rw [AI_ff, AI_n (Or.inl b), AI_n (Or.inl a)]
    · rw [AI_ff, AI_n (Or.inl (by decide)), AI_n (Or.inr (by omega))]
    · rw [AI_ff, AI_n (Or.inr (by omega)), AI_n (Or.inl (by decide))]
  refine ⟨_, hm, ⟨MB_mf h1 hm, ?_, ?_, ?_, FI_q, ?_, h7⟩, ?_, ?_, ?_⟩
  · rw [FI_n (Or.inr (by decide))]; exact h2
  · obtain ⟨x, x1, x2, x3⟩ := h3
    exact ⟨x, x1, x2, by rw [FI_n (Or.inr (by decide))]; exact x3⟩
  · rw [FI_n (Or.inr (by decide))]; exact h4
  · rw [FI_n (Or.inr (by decide))]; exact h6
  · rw [AI_ff, AI_n (Or.inl (by decide)), AI_q]
  · rw [AI_ff, AI_q]
  · rw [s181_0, c172_t (by omega) h2, aft_v, s181_4, z10, cond_false, h6, h5, nI_mul, nI_add, inbT (by omega) (by decide), cond_true, cond_true, nI_clamp (by omega), nI_add]
theorem m181_b {a b : Int32} {p : Nat} (hd : 2 ≤ d) (h : FI σ 85 5 = nI p) (hp : p < 2 ^ 31) : Run false d 181 0 [some (.ref 85), some (.int a), some (.int b)] [] σ = some (.inl (none, σ)) := by
  obtain ⟨d, rfl⟩ := dS (show 1 ≤ d by omega)
  rw [s181_0, c172_f (by omega) h hp, aft_v, s181_4, z00, cond_true]
/-- opens -/
theorem m182 {c : Nat} (hd : 2 ≤ d) (hN : N ≤ 400) (hB : ∀ j, j < N → B j ≤ 255) (hc : strS.contains c = true) (ho : o ≤ 8) (h : MAt B N r s o q σ) : ∃ τ, (if tkN B N q = c ∧ o < 8 then MF (400 * r + s) σ τ ∧ MAt B N r s (o + 1) (nxN B N q) τ else Bd (400 * r + s) σ τ (if tkN B N q = c then 3 else 1) q) ∧ Run false d 182 0 [some (.ref 85), some (.int (nI c)), some (.int (nI 1))] [] σ = some (.inl (none, τ)) := by
  obtain ⟨d, rfl⟩ := dS (show 1 ≤ d by omega)
  have hsg := sg_r hc
  obtain ⟨τ, t1, t2, t3, t4⟩ := m174 (d := d) (by omega) hN hB h
  have e5 : FI τ 85 5 = -1 := t2.2.1
  have e7 : FI τ 85 7 = nI o := t2.2.2.2.1
  have hqN := ma_le h
  rw [s182_0, c172_t (by omega) h.2.1, aft_v, s182_4, z10, cond_false, oeqF (by omega) (by omega) (by decide), cond_false, t4, aft_v, s182_16, ch_b hc hB, e7]
  have bad : ∀ k, ∃ τ', Bd (400 * r + s) σ τ' k q ∧ aft false (d + 1) 182 50 [some (.ref 85), some (.int (nI c)), some (.int (nI 1))] [] (some (.inl (none, wFI (wFI τ 85 5 (nI q)) 85 6 (nI k)))) = some (.inl (none, τ')) := by
    intro k
    have b := bd_w (s := 400 * r + s) (k := k) (p := q) (mf_at (s := 400 * r + s) t1)
    refine ⟨_, ⟨mf_w b.1 (k := 7) (v := nI (o + 1)) (by omega), ?_, ?_⟩, ?_⟩
    · rw [FI_n (Or.inr (by decide))]; exact b.2.1
    · rw [FI_n (Or.inr (by decide))]; exact b.2.2
    · rw [aft_n, s182_50, c172_f (by omega) b.2.1 (by omega), aft_v, s182_54, z00, cond_true, FI_n (Or.inr (by decide)), FI_n (Or.inr (by decide)), e7, nI_add]
  by_cases w : tkN B N q = c
  · rw [Nbt w, cond_true]
    by_cases w2 : o < 8
    · rw [oeqF (show o ≠ 8 by omega) (by omega) (by decide), cond_false, s182_50, c172_t (by omega) e5, aft_v, s182_54, z10, cond_false, t3, nI_add, e7, nI_add]
      have hq := ((tk_sg hc).mp w).1
      have t5 : At1 σ (wFI τ 85 4 (nI (q + 1))) (q + 1) := at_w t1
      have m5 : MAt B N r s o (nxN B N q) (wFI τ 85 4 (nI (q + 1))) := ma_at h t5 (by omega) (by unfold nxN; rw [te_sg hc w])
      refine ⟨_, ?_, rfl⟩
      rw [if_pos ⟨w, w2⟩]
      obtain ⟨g1, g2, ⟨x, x1, x2, x3⟩, g4, g5, g6, g7⟩ := m5
      refine ⟨mf_w (mf_at t5) (by omega), MB_mf (s := 0) g1 (mf_w mf_r (by omega)), ?_, ⟨x, x1, x2, ?_⟩, FI_q, ?_, ?_, g7⟩
      · rw [FI_n (Or.inr (by decide))]; exact g2
      · rw [FI_n (Or.inr (by decide))]; exact x3
      · rw [FI_n (Or.inr (by decide))]; exact g5
      · rw [FI_n (Or.inr (by decide))]; exact g6
    · obtain ⟨τ', b1, b2⟩ := bad 3
      have o8 : o = 8 := by omega
      rw [oeqT o8, cond_true, t3, c173_t (by omega) e5]
      refine ⟨τ', ?_, b2⟩
      rw [if_neg (fun v => w2 v.2), if_pos w]
      exact b1
  · obtain ⟨τ', b1, b2⟩ := bad 1
    rw [Nbf w, cond_false, t3, c173_t (by omega) e5]
    refine ⟨τ', ?_, ?_⟩
    · rw [if_neg (fun v => w v.1), if_neg w]
      exact b1
    · rw [aft_n, s182_29]
      rw [aft_n] at b2
      exact b2
theorem m182_b {a b : Int32} {p : Nat} (hd : 2 ≤ d) (h : FI σ 85 5 = nI p) (hp : p < 2 ^ 31) : Run false d 182 0 [some (.ref 85), some (.int a), some (.int b)] [] σ = some (.inl (none, σ)) := by
  obtain ⟨d, rfl⟩ := dS (show 1 ≤ d by omega)
  rw [s182_0, c172_f (by omega) h hp, aft_v, s182_4, z00, cond_true]
/-- closes -/
theorem m183 {c : Nat} (hd : 3 ≤ d) (hN : N ≤ 400) (hB : ∀ j, j < N → B j ≤ 255) (hc : strS.contains c = true) (h : MAt B N r s (o + 1) q σ) : ∃ τ, (if tkN B N q = c then MF (400 * r + s) σ τ ∧ MAt B N r s o (nxN B N q) τ else Bd (400 * r + s) σ τ 1 q) ∧ Run false d 183 0 [some (.ref 85), some (.int (nI c))] [] σ = some (.inl (none, τ)) := by
  obtain ⟨d, rfl⟩ := dS (show 1 ≤ d by omega)
  obtain ⟨τ, t1, t2⟩ := m180 (d := d) (by omega) hN hB hc h
  rw [s183_0, t2, aft_n, s183_5]
  by_cases w : tkN B N q = c
  · rw [if_pos w] at t1
    obtain ⟨f, g1, g2, ⟨x, x1, x2, x3⟩, g4, g5, g6, g7⟩ := t1
    refine ⟨_, ?_, rfl⟩
    rw [if_pos w, g4, nI_s1]
    refine ⟨mf_w f (by omega), MB_mf (s := 0) g1 (mf_w mf_r (by omega)), ?_, ⟨x, x1, x2, ?_⟩, FI_q, ?_, ?_, g7⟩
    · rw [FI_n (Or.inr (by decide))]; exact g2
    · rw [FI_n (Or.inr (by decide))]; exact x3
    · rw [FI_n (Or.inr (by decide))]; exact g5
    · rw [FI_n (Or.inr (by decide))]; exact g6
  · rw [if_neg w] at t1
    refine ⟨_, ?_, rfl⟩
    rw [if_neg w]
    exact ⟨mf_w t1.1 (by omega), by rw [FI_n (Or.inr (by decide))]; exact t1.2.1, by rw [FI_n (Or.inr (by decide))]; exact t1.2.2⟩
theorem m183_b {c : Int32} {k p : Nat} {σ0 : PS} (hd : 3 ≤ d) (h : Bd s σ0 σ k p) (hp : p < 2 ^ 31) : ∃ τ, Bd s σ0 τ k p ∧ Run false d 183 0 [some (.ref 85), some (.int c)] [] σ = some (.inl (none, τ)) := by
  obtain ⟨d, rfl⟩ := dS (show 1 ≤ d by omega)
  rw [s183_0, m180_b (by omega) h.2.1 hp, aft_n, s183_5]
  exact ⟨_, ⟨mf_w h.1 (by omega), by rw [FI_n (Or.inr (by decide))]; exact h.2.1, by rw [FI_n (Or.inr (by decide))]; exact h.2.2⟩, rfl⟩
end M2
