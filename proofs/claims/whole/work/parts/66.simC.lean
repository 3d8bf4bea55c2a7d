/-! THE PURE PROOFS: reading, the class: units and tests -/
noncomputable def fS (o : Nat) : Nat → PS → Option PO := fun d σ => Run false d 147 0 [some (.ref 12), some (.int (nI o)), none, none] [] σ
noncomputable def fU (o : Nat) : Nat → PS → Option PO := fun d σ => Run false d 149 0 [some (.ref 12), some (.int (nI o)), none] [] σ
noncomputable def fE (o : Nat) : Nat → PS → Option PO := fun d σ => Run false d 151 0 [some (.ref 12), some (.int (nI o)), none] [] σ
noncomputable def fT (o : Nat) : Nat → PS → Option PO := fun d σ => Run false d 153 0 [some (.ref 12), some (.int (nI o)), none] [] σ
noncomputable def gS : Nat → PS → Option PO := fun d σ => Run false d 187 0 [some (.ref 85), none] [] σ
noncomputable def gU : Nat → PS → Option PO := fun d σ => Run false d 185 0 [some (.ref 85), none, none, none] [] σ
noncomputable def gE : Nat → PS → Option PO := fun d σ => Run false d 188 0 [some (.ref 85)] [] σ
noncomputable def gT : Nat → PS → Option PO := fun d σ => Run false d 190 0 [some (.ref 85), none] [] σ
/-- something between brackets -/
def brR (B : Nat → Nat) (N o q op cl : Nat) (r1 : RS) : RS := if tkN B N q = op ∧ o < 8 then (match r1 with | Sum.inr x => Sum.inr x | Sum.inl (q1, c1) => if tkN B N q1 = cl then rok (nxN B N q1) c1 else rbad 1 q1) else rbad (if tkN B N q = op then 3 else 1) q
/-- two between brackets -/
def prR (B : Nat → Nat) (N o q w : Nat) (r1 r2 : RS) : RS := if tkN B N q = 40 ∧ o < 8 then (match r1 with | Sum.inr x => Sum.inr x | Sum.inl (q1, c1) => if tkN B N q1 = 44 then (match r2 with | Sum.inr x => Sum.inr x | Sum.inl (q2, c2) => if tkN B N q2 = 41 then rok (nxN B N q2) (c1 ++ (c2 ++ [(w, 0)])) else rbad 1 q2) else rbad 1 q1) else rbad (if tkN B N q = 40 then 3 else 1) q
def ntR (o q : Nat) (r1 : RS) : RS := if o < 8 then (match r1 with | Sum.inr x => Sum.inr x | Sum.inl (q1, c1) => rok q1 (c1 ++ [(17, 0)])) else rbad 3 q
def cpW (t : Nat) : Nat := if t = 60 then 12 else if t = 62 then 13 else 14
def cpR (B : Nat → Nat) (N : Nat) (r1 r2 : RS) : RS := match r1 with | Sum.inr x => Sum.inr x | Sum.inl (q1, c1) => if tkN B N q1 = 60 ∨ tkN B N q1 = 62 ∨ tkN B N q1 = 61 then (match r2 with | Sum.inr x => Sum.inr x | Sum.inl (q2, c2) => rok q2 (c1 ++ (c2 ++ [(cpW (tkN B N q1), 0)]))) else rbad 1 q1
section UC
variable {B : Nat → Nat} {N q D o : Nat} {r1 r2 : RS}
theorem tk_nx {c : Nat} (h : tkN B N q = c) (hc : c ≠ 301) : q < N ∧ q < nxN B N q ∧ nxN B N q ≤ N := by
  have hq : q < N := Nat.lt_of_not_le (fun v => by rw [tk_end.mpr v] at h; omega)
  exact ⟨hq, nx_ok hq⟩
theorem uC_num (hN : N ≤ 400) (hD : 1 ≤ D) (ht : tkN B N q = 300) (hv : nvN B N q ≤ 9999) : CSim B N (fU o) (D + 1) q (rok (nxN B N q) [(0, nvN B N q)]) := by
  intro d L u σ hd hL hu hC
  obtain ⟨d, rfl⟩ := dS (show 1 ≤ d by omega)
  obtain ⟨hq, n1, n2⟩ := tk_nx ht (by decide)
  obtain ⟨τ1, a1, a2, a3, a4⟩ := c96 (d := d) (v := nI (nvN B N q)) (by omega) hL (show u < 4400 by omega) hC
  obtain ⟨τ2, b1, b2, b3⟩ := c141 (d := d) (by omega) a2 hq
  refine ⟨τ2, cf_t a1 b1 (by omega), crs_ok b2 (codeC_cf (codeC_one a3) b1 (Nat.le_refl _)) ?_⟩
  show Run false (d + 1) 149 0 _ [] σ = _
  rw [s149_0, ca_tok hC, ca_val hC, oeqT ht, cond_true, oleT hv (by decide), cond_true, a4, aft_n, s149_37, b3, aft_n, s149_41, is01_1, cond_true]
theorem uC_big (hN : N ≤ 400) (hD : 1 ≤ D) (ht : tkN B N q = 300) (hv : 9999 < nvN B N q) (hv2 : nvN B N q < 2 ^ 31) : CSim B N (fU o) (D + 1) q (rbad 2 q) := by
  intro d L u σ hd hL hu hC
  obtain ⟨d, rfl⟩ := dS (show 1 ≤ d by omega)
  obtain ⟨τ1, a1, a2, a3, a4⟩ := c140 (d := d) (k := 2) (by omega) hC
  refine ⟨τ1, a1, crs_bad a2 a3 ?_⟩
  show Run false (d + 1) 149 0 _ [] σ = _
  rw [s149_0, ca_tok hC, ca_val hC, oeqT ht, cond_true, oleF hv hv2, cond_false, a4, aft_v, s149_25, is01_0, cond_true]
theorem uC_fact {k : Nat} (hN : N ≤ 400) (hD : 1 ≤ D) (hk : 5 ≤ k ∧ k ≤ 9) (ht : tkN B N q = 200 + k) : CSim B N (fU o) (D + 1) q (rok (nxN B N q) [(k - 4, 0)]) := by
  intro d L u σ hd hL hu hC
  obtain ⟨d, rfl⟩ := dS (show 1 ≤ d by omega)
  obtain ⟨hq, n1, n2⟩ := tk_nx ht (by omega)
  have ev : (nI 10000 + nI (tkN B N q)) - nI 205 = nI (encC (k - 4, 0)) := by
    rw [ht, nI_add, nI_sub (by omega)]
    have : k = 5 ∨ k = 6 ∨ k = 7 ∨ k = 8 ∨ k = 9 := by omega
    rcases this with rfl | rfl | rfl | rfl | rfl <;> rfl
  obtain ⟨τ1, a1, a2, a3, a4⟩ := c96 (d := d) (v := nI (encC (k - 4, 0))) (by omega) hL (show u < 4400 by omega) hC
  obtain ⟨τ2, b1, b2, b3⟩ := c141 (d := d) (by omega) a2 hq
  refine ⟨τ2, cf_t a1 b1 (by omega), crs_ok b2 (codeC_cf (codeC_one a3) b1 (Nat.le_refl _)) ?_⟩
  show Run false (d + 1) 149 0 _ [] σ = _
  have hb := tk_b (B := B) (N := N) (q := q)
  rw [s149_0, ca_tok hC, oeqF (show tkN B N q ≠ 300 by omega) hb (by decide), cond_false, oltF (show 205 ≤ tkN B N q by omega) hb, cond_false, oltF (show tkN B N q ≤ 209 by omega) (by decide), cond_false, ev, a4, aft_n, s149_82, b3, aft_n, s149_86, is01_1, cond_true]
theorem uC_br (hN : N ≤ 400) (hD : 2 ≤ D) (ho : o ≤ 8) (hn : tkN B N q ≠ 300 ∧ ¬ (205 ≤ tkN B N q ∧ tkN B N q ≤ 209) ∧ tkN B N q ≠ 224 ∧ tkN B N q ≠ 225) (h1 : tkN B N q = 40 → o < 8 → CSim B N (fS (o + 1)) D (nxN B N q) r1 ∧ RP N (nxN B N q) r1) : CSim B N (fU o) (D + 1) q (brR B N o q 40 41 r1) := by
  intro d L u σ hd hL hu hC
  obtain ⟨d, rfl⟩ := dS (show 1 ≤ d by omega)
  obtain ⟨n1, n2, n3, n4⟩ := hn
  have hb := tk_b (B := B) (N := N) (q := q)
  obtain ⟨τ1, a1, a2⟩ := c143 (d := d) (c := 40) (by omega) (by decide) ho hC (by decide)
  have p1 : Run false (d + 1) 149 0 [some (.ref 12), some (.int (nI o)), none] [] σ = aft false (d + 1) 149 146 [some (.ref 12), some (.int (nI o)), none] [] (Run false d 143 0 [some (.ref 12), some (.int (nI 40)), some (.int (nI o))] [] σ) := by
    rw [s149_0, ca_tok hC, oeqF n1 hb (by decide), cond_false]
    by_cases w : tkN B N q < 205
    · rw [oltT w (by decide), cond_true, oeqF n3 hb (by decide), cond_false, oeqF n4 hb (by decide), cond_false]
    · rw [oltF (by omega) hb, cond_false, oltT (show 209 < tkN B N q by omega) hb, cond_true, oeqF n3 hb (by decide), cond_false, oeqF n4 hb (by decide), cond_false]
  unfold brR
  by_cases w : tkN B N q = 40 ∧ o < 8
  · rw [if_pos w] at a2 ⊢
    obtain ⟨hq, m1, m2⟩ := tk_nx w.1 (by decide)
    obtain ⟨x1, x2⟩ := h1 w.1 w.2
    obtain ⟨τ2, b1, b2⟩ := x1 d L u τ1 (by omega) hL (by omega) a2.1
    rcases r1 with ⟨q1, c1⟩ | ⟨k, p⟩
    · obtain ⟨b3, b4, b5⟩ := b2
      obtain ⟨y1, y2⟩ := x2
      obtain ⟨τ3, e1, e2⟩ := c142 (d := d) (c := 41) (by omega) (by decide) b3 (by decide)
      have b6 : Run false d 147 0 [some (.ref 12), some (.int (nI (o + 1))), none, none] [] τ1 = some (.inl (some (.int (nI 1)), τ2)) := b5
      refine ⟨τ3, cf_t (cf_t a1 b1 (Nat.le_refl _)) e1 (by omega), ?_⟩
      show CRs B N L u τ3 (Run false (d + 1) 149 0 _ [] σ) (if tkN B N q1 = 41 then rok (nxN B N q1) c1 else rbad 1 q1)
      rw [p1, a2.2, aft_v, s149_146, z10, cond_false, nI_add, b6, aft_v, s149_156, z10, cond_false]
      by_cases v : tkN B N q1 = 41
      · rw [if_pos v] at e2 ⊢
        rw [e2.2, aft_v, s149_165, z10, cond_false, is01_1, cond_true]
        exact crs_ok e2.1 (codeC_cf b4 e1 (Nat.le_refl _)) rfl
      · rw [if_neg v] at e2 ⊢
        rw [e2.2.2, aft_v, s149_165, z00, cond_true, is01_0, cond_true]
        exact crs_bad e2.1 e2.2.1 rfl
    · obtain ⟨b3, b4, b5⟩ := b2
      have b6 : Run false d 147 0 [some (.ref 12), some (.int (nI (o + 1))), none, none] [] τ1 = some (.inl (some (.int (nI 0)), τ2)) := b5
      refine ⟨τ2, cf_t a1 b1 (Nat.le_refl _), crs_bad b3 b4 ?_⟩
      show Run false (d + 1) 149 0 _ [] σ = _
      rw [p1, a2.2, aft_v, s149_146, z10, cond_false, nI_add, b6, aft_v, s149_156, z00, cond_true, is01_0, cond_true]
  · rw [if_neg w] at a2 ⊢
    refine ⟨τ1, a1, crs_bad a2.1 a2.2.1 ?_⟩
    show Run false (d + 1) 149 0 _ [] σ = _
    rw [p1, a2.2.2, aft_v, s149_146, z00, cond_true, is01_0, cond_true]
/-- min and max -/
theorem c150 {w : Nat} (hN : N ≤ 400) (hD : 2 ≤ D) (ho : o ≤ 8) (h1 : tkN B N q = 40 → o < 8 → CSim B N (fS (o + 1)) D (nxN B N q) r1 ∧ RP N (nxN B N q) r1) (h2 : ∀ q1 c1, tkN B N q = 40 → o < 8 → r1 = Sum.inl (q1, c1) → tkN B N q1 = 44 → CSim B N (fS (o + 1)) D (nxN B N q1) r2 ∧ RP N (nxN B N q1) r2) : CSim B N (fun d σ => Run false d 150 0 [some (.ref 12), some (.int (nI o)), some (.int (nI (encC (w, 0)))), none] [] σ) (D + 1) q (prR B N o q w r1 r2) := by
  intro d L u σ hd hL hu hC
  obtain ⟨d, rfl⟩ := dS (show 1 ≤ d by omega)
  obtain ⟨τ1, a1, a2⟩ := c143 (d := d) (c := 40) (by omega) (by decide) ho hC (by decide)
  show ∃ τ, CF L u σ τ ∧ CRs B N L u τ (Run false (d + 1) 150 0 [some (.ref 12), some (.int (nI o)), some (.int (nI (encC (w, 0)))), none] [] σ) _
  have bad : ∀ τ, Run false (d + 1) 150 66 [some (.ref 12), some (.int (nI o)), some (.int (nI (encC (w, 0)))), some (.int (nI 0))] [] τ = some (.inl (some (.int (nI 0)), τ)) := fun τ => by rw [s150_66, is01_0, cond_true]
  unfold prR
  by_cases v : tkN B N q = 40 ∧ o < 8
  · rw [if_pos v] at a2 ⊢
    obtain ⟨hq, m1, m2⟩ := tk_nx v.1 (by decide)
    obtain ⟨x1, x2⟩ := h1 v.1 v.2
    obtain ⟨τ2, b1, b2⟩ := x1 d L u τ1 (by omega) hL (by omega) a2.1
    rcases r1 with ⟨q1, c1⟩ | ⟨k, p⟩
    · obtain ⟨b3, b4, b5⟩ := b2
      obtain ⟨y1, y2⟩ := x2
      have b6 : Run false d 147 0 [some (.ref 12), some (.int (nI (o + 1))), none, none] [] τ1 = some (.inl (some (.int (nI 1)), τ2)) := b5
      obtain ⟨τ3, e1, e2⟩ := c142 (d := d) (c := 44) (by omega) (by decide) b3 (by decide)
      have f12 := cf_t (cf_t a1 b1 (Nat.le_refl _)) e1 (by omega)
      show ∃ τ, CF L u σ τ ∧ CRs B N L u τ (Run false (d + 1) 150 0 _ [] σ) (if tkN B N q1 = 44 then _ else rbad 1 q1)
      rw [s150_0, a2.2, aft_v, s150_7, z10, cond_false, nI_add, b6, aft_v, s150_17, z10, cond_false]
      by_cases v2 : tkN B N q1 = 44
      · rw [if_pos v2] at e2 ⊢
        obtain ⟨hq1, k1, k2⟩ := tk_nx v2 (by decide)
        obtain ⟨x3, x4⟩ := h2 q1 c1 v.1 v.2 rfl v2
        obtain ⟨τ4, g1, g2⟩ := x3 d L (u + c1.length) τ3 (by omega) hL (by omega) e2.1
        rw [e2.2, aft_v, s150_26, z10, cond_false, nI_add]
        rcases r2 with ⟨q2, c2⟩ | ⟨k, p⟩
        · obtain ⟨g3, g4, g5⟩ := g2
          obtain ⟨y3, y4⟩ := x4
          have g6 : Run false d 147 0 [some (.ref 12), some (.int (nI (o + 1))), none, none] [] τ3 = some (.inl (some (.int (nI 1)), τ4)) := g5
          obtain ⟨τ5, i1, i2⟩ := c142 (d := d) (c := 41) (by omega) (by decide) g3 (by decide)
          have f15 := cf_t (cf_t f12 g1 (by omega)) i1 (by omega)
          show ∃ τ, CF L u σ τ ∧ CRs B N L u τ _ (if tkN B N q2 = 41 then _ else rbad 1 q2)
          rw [g6, aft_v, s150_36, z10, cond_false]
          by_cases v3 : tkN B N q2 = 41
          · rw [if_pos v3] at i2 ⊢
            obtain ⟨hq2, l1, l2⟩ := tk_nx v3 (by decide)
            obtain ⟨τ6, j1, j2, j3, j4⟩ := c96 (d := d) (v := nI (encC (w, 0))) (by omega) hL (show u + c1.length + c2.length < 4400 by omega) i2.1
            rw [i2.2, aft_v, s150_45, z10, cond_false, cond_false, j4, aft_n, s150_66, is01_1, cond_true]
            have el : u + (c1 ++ (c2 ++ [(w, (0 : Nat))])).length = u + c1.length + c2.length + 1 := by rw [List.length_append, List.length_append]; show u + (c1.length + (c2.length + 1)) = _; omega
            refine ⟨τ6, cf_t f15 j1 (by omega), crs_ok (by rw [el]; exact j2) ?_ rfl⟩
            refine codeC_app (codeC_cf (codeC_cf (codeC_cf (codeC_cf b4 e1 (Nat.le_refl _)) g1 (Nat.le_refl _)) i1 (by omega)) j1 (by omega)) (codeC_app (codeC_cf (codeC_cf g4 i1 (Nat.le_refl _)) j1 (by omega)) (codeC_one j3))
          · rw [if_neg v3] at i2 ⊢
            rw [i2.2.2, aft_v, s150_45, z00, cond_true, cond_true, bad]
            exact ⟨τ5, f15, crs_bad i2.1 i2.2.1 rfl⟩
        · obtain ⟨g3, g4, g5⟩ := g2
          have g6 : Run false d 147 0 [some (.ref 12), some (.int (nI (o + 1))), none, none] [] τ3 = some (.inl (some (.int (nI 0)), τ4)) := g5
          rw [g6, aft_v, s150_36, z00, cond_true, cond_true, bad]
          exact ⟨τ4, cf_t f12 g1 (by omega), crs_bad g3 g4 rfl⟩
      · rw [if_neg v2] at e2 ⊢
        rw [e2.2.2, aft_v, s150_26, z00, cond_true, cond_true, bad]
        exact ⟨τ3, f12, crs_bad e2.1 e2.2.1 rfl⟩
    · obtain ⟨b3, b4, b5⟩ := b2
      have b6 : Run false d 147 0 [some (.ref 12), some (.int (nI (o + 1))), none, none] [] τ1 = some (.inl (some (.int (nI 0)), τ2)) := b5
      rw [s150_0, a2.2, aft_v, s150_7, z10, cond_false, nI_add, b6, aft_v, s150_17, z00, cond_true, cond_true, bad]
      exact ⟨τ2, cf_t a1 b1 (Nat.le_refl _), crs_bad b3 b4 rfl⟩
  · rw [if_neg v] at a2 ⊢
    rw [s150_0, a2.2.2, aft_v, s150_7, z00, cond_true, cond_true, bad]
    exact ⟨τ1, a1, crs_bad a2.1 a2.2.1 rfl⟩
theorem is_rs {b : Int32} (h : b = nI 0 ∨ b = nI 1) : is01 b = true := is01_of h
/-- a unit that is min or max: r is of the brackets behind it -/
theorem uC_pair {t w : Nat} {r : RS} (hN : N ≤ 400) (hD : 1 ≤ D) (ht : tkN B N q = t) (hw : (t = 224 ∧ w = 10) ∨ (t = 225 ∧ w = 11)) (h1 : CSim B N (fun d σ => Run false d 150 0 [some (.ref 12), some (.int (nI o)), some (.int (nI (encC (w, 0)))), none] [] σ) D (nxN B N q) r) : CSim B N (fU o) (D + 1) q r := by
  intro d L u σ hd hL hu hC
  obtain ⟨d, rfl⟩ := dS (show 1 ≤ d by omega)
  obtain ⟨hq, m1, m2⟩ := tk_nx ht (by rcases hw with ⟨a, -⟩ | ⟨a, -⟩ <;> omega)
  have hb := tk_b (B := B) (N := N) (q := q)
  obtain ⟨τ1, a1, a2, a3⟩ := c141 (d := d) (by omega) hC hq
  obtain ⟨τ2, b1, b2⟩ := h1 d L u τ1 (by omega) hL (by omega) a2
  have p1 : Run false (d + 1) 149 0 [some (.ref 12), some (.int (nI o)), none] [] σ = aft false (d + 1) 149 138 [some (.ref 12), some (.int (nI o)), some (.int (nI (encC (w, 0))))] [] (Run false d 150 0 [some (.ref 12), some (.int (nI o)), some (.int (nI (encC (w, 0)))), none] [] τ1) := by
    rw [s149_0, ca_tok hC]
    rcases hw with ⟨rfl, rfl⟩ | ⟨rfl, rfl⟩
    · rw [ht, oeqF (by decide) (by decide) (by decide), cond_false, oltF (by decide) (by decide), cond_false, oltT (by decide) (by decide), cond_true, oeqT rfl, cond_true, cond_true, a3, aft_n, s149_132]
      rfl
    · rw [ht, oeqF (by decide) (by decide) (by decide), cond_false, oltF (by decide) (by decide), cond_false, oltT (by decide) (by decide), cond_true, oeqF (by decide) (by decide) (by decide), cond_false, oeqT rfl, cond_true, cond_false, a3, aft_n, s149_132]
      rfl
  refine ⟨τ2, cf_t a1 b1 (Nat.le_refl _), ?_⟩
  show CRs B N L u τ2 (Run false (d + 1) 149 0 [some (.ref 12), some (.int (nI o)), none] [] σ) r
  rw [p1]
  rcases r with ⟨q', cs⟩ | ⟨k, p⟩
  · obtain ⟨g1, g2, g3⟩ := b2
    have g4 : Run false d 150 0 [some (.ref 12), some (.int (nI o)), some (.int (nI (encC (w, 0)))), none] [] τ1 = some (.inl (some (.int (nI 1)), τ2)) := g3
    rw [g4, aft_v, s149_138, is01_1, cond_true]
    exact ⟨g1, g2, rfl⟩
  · obtain ⟨g1, g2, g3⟩ := b2
    have g4 : Run false d 150 0 [some (.ref 12), some (.int (nI o)), some (.int (nI (encC (w, 0)))), none] [] τ1 = some (.inl (some (.int (nI 0)), τ2)) := g3
    rw [g4, aft_v, s149_138, is01_0, cond_true]
    exact ⟨g1, g2, rfl⟩
/-! tests -/
theorem tC_not (hN : N ≤ 400) (hD : 2 ≤ D) (ho : o ≤ 8) (ht : tkN B N q = 223) (h1 : o < 8 → CSim B N (fT (o + 1)) D (nxN B N q) r1 ∧ RP N (nxN B N q) r1) : CSim B N (fT o) (D + 1) q (ntR o q r1) := by
  intro d L u σ hd hL hu hC
  obtain ⟨d, rfl⟩ := dS (show 1 ≤ d by omega)
  obtain ⟨hq, m1, m2⟩ := tk_nx ht (by decide)
  obtain ⟨τ1, a1, a2⟩ := c143 (d := d) (c := 223) (by omega) (by decide) ho hC (by decide)
  show ∃ τ, CF L u σ τ ∧ CRs B N L u τ (Run false (d + 1) 153 0 [some (.ref 12), some (.int (nI o)), none] [] σ) _
  rw [s153_0, ca_tok hC, oeqT ht, cond_true]
  unfold ntR
  by_cases w : o < 8
  · rw [if_pos ⟨ht, w⟩] at a2
    rw [if_pos w]
    obtain ⟨x1, x2⟩ := h1 w
    obtain ⟨τ2, b1, b2⟩ := x1 d L u τ1 (by omega) hL (by omega) a2.1
    rw [a2.2, aft_v, s153_18, z10, cond_false, nI_add]
    rcases r1 with ⟨q1, c1⟩ | ⟨k, p⟩
    · obtain ⟨b3, b4, b5⟩ := b2
      obtain ⟨y1, y2⟩ := x2
      have b6 : Run false d 153 0 [some (.ref 12), some (.int (nI (o + 1))), none] [] τ1 = some (.inl (some (.int (nI 1)), τ2)) := b5
      obtain ⟨τ3, e1, e2, e3, e4⟩ := c96 (d := d) (v := nI 10021) (by omega) hL (show u + c1.length < 4400 by omega) b3
      rw [b6, aft_v, s153_28, z10, cond_false, e4, aft_n, s153_43, is01_1, cond_true]
      refine ⟨τ3, cf_t (cf_t a1 b1 (Nat.le_refl _)) e1 (by omega), ?_⟩
      refine crs_ok ?_ (codeC_app (codeC_cf b4 e1 (Nat.le_refl _)) (codeC_one e3)) rfl
      rw [List.length_append]; exact e2
    · obtain ⟨b3, b4, b5⟩ := b2
      have b6 : Run false d 153 0 [some (.ref 12), some (.int (nI (o + 1))), none] [] τ1 = some (.inl (some (.int (nI 0)), τ2)) := b5
      rw [b6, aft_v, s153_28, z00, cond_true, is01_0, cond_true]
      exact ⟨τ2, cf_t a1 b1 (Nat.le_refl _), crs_bad b3 b4 rfl⟩
  · rw [if_neg (fun v => w v.2), if_pos ht] at a2
    rw [if_neg w, a2.2.2, aft_v, s153_18, z00, cond_true, is01_0, cond_true]
    exact ⟨τ1, a1, crs_bad a2.1 a2.2.1 rfl⟩
theorem tC_br (hN : N ≤ 400) (hD : 2 ≤ D) (ho : o ≤ 8) (ht : tkN B N q = 91) (h1 : o < 8 → CSim B N (fE (o + 1)) D (nxN B N q) r1 ∧ RP N (nxN B N q) r1) : CSim B N (fT o) (D + 1) q (brR B N o q 91 93 r1) := by
  intro d L u σ hd hL hu hC
  obtain ⟨d, rfl⟩ := dS (show 1 ≤ d by omega)
  obtain ⟨hq, m1, m2⟩ := tk_nx ht (by decide)
  obtain ⟨τ1, a1, a2⟩ := c143 (d := d) (c := 91) (by omega) (by decide) ho hC (by decide)
  show ∃ τ, CF L u σ τ ∧ CRs B N L u τ (Run false (d + 1) 153 0 [some (.ref 12), some (.int (nI o)), none] [] σ) _
  rw [s153_0, ca_tok hC, oeqF (show tkN B N q ≠ 223 by omega) tk_b (by decide), cond_false, oeqT ht, cond_true]
  unfold brR
  by_cases w : tkN B N q = 91 ∧ o < 8
  · rw [if_pos w] at a2 ⊢
    obtain ⟨x1, x2⟩ := h1 w.2
    obtain ⟨τ2, b1, b2⟩ := x1 d L u τ1 (by omega) hL (by omega) a2.1
    rw [a2.2, aft_v, s153_61, z10, cond_false, nI_add]
    rcases r1 with ⟨q1, c1⟩ | ⟨k, p⟩
    · obtain ⟨b3, b4, b5⟩ := b2
      have b6 : Run false d 151 0 [some (.ref 12), some (.int (nI (o + 1))), none] [] τ1 = some (.inl (some (.int (nI 1)), τ2)) := b5
      obtain ⟨τ3, e1, e2⟩ := c142 (d := d) (c := 93) (by omega) (by decide) b3 (by decide)
      have f12 := cf_t (cf_t a1 b1 (Nat.le_refl _)) e1 (by omega)
      show ∃ τ, CF L u σ τ ∧ CRs B N L u τ _ (if tkN B N q1 = 93 then rok (nxN B N q1) c1 else rbad 1 q1)
      rw [b6, aft_v, s153_71, z10, cond_false]
      by_cases v : tkN B N q1 = 93
      · rw [if_pos v] at e2 ⊢
        rw [e2.2, aft_v, s153_80, z10, cond_false, is01_1, cond_true]
        exact ⟨τ3, f12, crs_ok e2.1 (codeC_cf b4 e1 (Nat.le_refl _)) rfl⟩
      · rw [if_neg v] at e2 ⊢
        rw [e2.2.2, aft_v, s153_80, z00, cond_true, is01_0, cond_true]
        exact ⟨τ3, f12, crs_bad e2.1 e2.2.1 rfl⟩
    · obtain ⟨b3, b4, b5⟩ := b2
      have b6 : Run false d 151 0 [some (.ref 12), some (.int (nI (o + 1))), none] [] τ1 = some (.inl (some (.int (nI 0)), τ2)) := b5
      rw [b6, aft_v, s153_71, z00, cond_true, is01_0, cond_true]
      exact ⟨τ2, cf_t a1 b1 (Nat.le_refl _), crs_bad b3 b4 rfl⟩
  · rw [if_neg w] at a2 ⊢
    rw [a2.2.2, aft_v, s153_61, z00, cond_true, is01_0, cond_true]
    exact ⟨τ1, a1, crs_bad a2.1 a2.2.1 rfl⟩
theorem tC_cmp (hN : N ≤ 400) (hD : 2 ≤ D) (hn : tkN B N q ≠ 223 ∧ tkN B N q ≠ 91) (h1 : CSim B N (fS o) D q r1) (hp1 : RP N q r1) (h2 : ∀ q1 c1, r1 = Sum.inl (q1, c1) → (tkN B N q1 = 60 ∨ tkN B N q1 = 62 ∨ tkN B N q1 = 61) → CSim B N (fS o) D (nxN B N q1) r2 ∧ RP N (nxN B N q1) r2) : CSim B N (fT o) (D + 1) q (cpR B N r1 r2) := by
  intro d L u σ hd hL hu hC
  obtain ⟨d, rfl⟩ := dS (show 1 ≤ d by omega)
  obtain ⟨τ2, b1, b2⟩ := h1 d L u σ (by omega) hL hu hC
  show ∃ τ, CF L u σ τ ∧ CRs B N L u τ (Run false (d + 1) 153 0 [some (.ref 12), some (.int (nI o)), none] [] σ) _
  rw [s153_0, ca_tok hC, oeqF hn.1 tk_b (by decide), cond_false, oeqF hn.2 tk_b (by decide), cond_false]
  rcases r1 with ⟨q1, c1⟩ | ⟨k, p⟩
  · obtain ⟨b3, b4, b5⟩ := b2
    obtain ⟨y1, y2⟩ := hp1
    have b6 : Run false d 147 0 [some (.ref 12), some (.int (nI o)), none, none] [] σ = some (.inl (some (.int (nI 1)), τ2)) := b5
    rw [b6, aft_v, s153_94, z10, cond_false]
    show ∃ τ, CF L u σ τ ∧ CRs B N L u τ _ (if tkN B N q1 = 60 ∨ tkN B N q1 = 62 ∨ tkN B N q1 = 61 then _ else rbad 1 q1)
    have hb1 := tk_b (B := B) (N := N) (q := q1)
    by_cases v : tkN B N q1 = 60 ∨ tkN B N q1 = 62 ∨ tkN B N q1 = 61
    · rw [if_pos v]
      have hne : tkN B N q1 ≠ 301 := by omega
      obtain ⟨hq1, k1, k2⟩ := tk_nx (rfl : tkN B N q1 = tkN B N q1) hne
      obtain ⟨τ3, e1, e2, e3⟩ := c141 (d := d) (by omega) b3 hq1
      obtain ⟨x3, x4⟩ := h2 q1 c1 rfl v
      obtain ⟨τ4, g1, g2⟩ := x3 d L (u + c1.length) τ3 (by omega) hL (by omega) e2
      have f14 := cf_t (cf_t b1 e1 (by omega)) g1 (by omega)
      have p2 : ∀ R : Option PO, aft false (d + 1) 153 170 [some (.ref 12), some (.int (nI o)), some (.int (nI (encC (cpW (tkN B N q1), 0))))] [] (Run false d 141 0 [some (.ref 12)] [] τ2) = R → (bif obl (FI τ2 12 5 = nI 60) then (bif obl (FI τ2 12 5 = nI 60) then aft false (d + 1) 153 170 [some (.ref 12), some (.int (nI o)), some (.int (nI 10016))] [] (Run false d 141 0 [some (.ref 12)] [] τ2) else (bif obl (FI τ2 12 5 = nI 62) then aft false (d + 1) 153 170 [some (.ref 12), some (.int (nI o)), some (.int (nI 10016))] [] (Run false d 141 0 [some (.ref 12)] [] τ2) else (bif obl (FI τ2 12 5 = nI 61) then aft false (d + 1) 153 170 [some (.ref 12), some (.int (nI o)), some (.int (nI 10016))] [] (Run false d 141 0 [some (.ref 12)] [] τ2) else aft false (d + 1) 153 165 [some (.ref 12), some (.int (nI o)), some (.int (nI 10016))] [] (Run false d 140 0 [some (.ref 12), some (.int (nI 1))] [] τ2)))) else (bif obl (FI τ2 12 5 = nI 62) then (bif obl (FI τ2 12 5 = nI 60) then aft false (d + 1) 153 170 [some (.ref 12), some (.int (nI o)), some (.int (nI 10017))] [] (Run false d 141 0 [some (.ref 12)] [] τ2) else (bif obl (FI τ2 12 5 = nI 62) then aft false (d + 1) 153 170 [some (.ref 12), some (.int (nI o)), some (.int (nI 10017))] [] (Run false d 141 0 [some (.ref 12)] [] τ2) else (bif obl (FI τ2 12 5 = nI 61) then aft false (d + 1) 153 170 [some (.ref 12), some (.int (nI o)), some (.int (nI 10017))] [] (Run false d 141 0 [some (.ref 12)] [] τ2) else aft false (d + 1) 153 165 [some (.ref 12), some (.int (nI o)), some (.int (nI 10017))] [] (Run false d 140 0 [some (.ref 12), some (.int (nI 1))] [] τ2)))) else (bif obl (FI τ2 12 5 = nI 60) then aft false (d + 1) 153 170 [some (.ref 12), some (.int (nI o)), some (.int (nI 10018))] [] (Run false d 141 0 [some (.ref 12)] [] τ2) else (bif obl (FI τ2 12 5 = nI 62) then aft false (d + 1) 153 170 [some (.ref 12), some (.int (nI o)), some (.int (nI 10018))] [] (Run false d 141 0 [some (.ref 12)] [] τ2) else (bif obl (FI τ2 12 5 = nI 61) then aft false (d + 1) 153 170 [some (.ref 12), some (.int (nI o)), some (.int (nI 10018))] [] (Run false d 141 0 [some (.ref 12)] [] τ2) else aft false (d + 1) 153 165 [some (.ref 12), some (.int (nI o)), some (.int (nI 10018))] [] (Run false d 140 0 [some (.ref 12), some (.int (nI 1))] [] τ2)))))) = R := by
        intro R hR
        rw [ca_tok b3]
        rcases v with v | v | v
        · rw [v] at hR ⊢
          rw [oeqT rfl, cond_true, cond_true]; exact hR
        · rw [v] at hR ⊢
          rw [oeqF (by decide) (by decide) (by decide), cond_false, oeqT rfl, cond_true, cond_false, cond_true]; exact hR
        · rw [v] at hR ⊢
          rw [oeqF (by decide) (by decide) (by decide), cond_false, oeqF (by decide) (by decide) (by decide), cond_false, cond_false, cond_false, oeqT rfl, cond_true]; exact hR
      rcases r2 with ⟨q2, c2⟩ | ⟨k, p⟩
      · obtain ⟨g3, g4, g5⟩ := g2
        obtain ⟨y3, y4⟩ := x4
        have g6 : Run false d 147 0 [some (.ref 12), some (.int (nI o)), none, none] [] τ3 = some (.inl (some (.int (nI 1)), τ4)) := g5
        obtain ⟨τ6, j1, j2, j3, j4⟩ := c96 (d := d) (v := nI (encC (cpW (tkN B N q1), 0))) (by omega) hL (show u + c1.length + c2.length < 4400 by omega) g3
        have el : u + (c1 ++ (c2 ++ [(cpW (tkN B N q1), (0 : Nat))])).length = u + c1.length + c2.length + 1 := by rw [List.length_append, List.length_append]; show u + (c1.length + (c2.length + 1)) = _; omega
        refine ⟨τ6, cf_t f14 j1 (by omega), crs_ok (by rw [el]; exact j2) ?_ (p2 _ ?_)⟩
        · exact codeC_app (codeC_cf (codeC_cf (codeC_cf b4 e1 (Nat.le_refl _)) g1 (Nat.le_refl _)) j1 (by omega)) (codeC_app (codeC_cf g4 j1 (Nat.le_refl _)) (codeC_one j3))
        · rw [e3, aft_n, s153_170, g6, aft_v, s153_175, z10, cond_false, j4, aft_n, s153_188, is01_1, cond_true]
      · obtain ⟨g3, g4, g5⟩ := g2
        have g6 : Run false d 147 0 [some (.ref 12), some (.int (nI o)), none, none] [] τ3 = some (.inl (some (.int (nI 0)), τ4)) := g5
        refine ⟨τ4, f14, crs_bad g3 g4 (p2 _ ?_)⟩
        rw [e3, aft_n, s153_170, g6, aft_v, s153_175, z00, cond_true, is01_0, cond_true]
    · rw [if_neg v]
      obtain ⟨τ3, e1, e2, e3, e4⟩ := c140 (d := d) (k := 1) (by omega) b3
      refine ⟨τ3, cf_t b1 e1 (by omega), crs_bad e2 e3 ?_⟩
      have n1 : tkN B N q1 ≠ 60 := fun w => v (Or.inl w)
      have n2 : tkN B N q1 ≠ 62 := fun w => v (Or.inr (Or.inl w))
      have n3 : tkN B N q1 ≠ 61 := fun w => v (Or.inr (Or.inr w))
      rw [ca_tok b3, oeqF n1 hb1 (by decide), cond_false, oeqF n2 hb1 (by decide), cond_false, cond_false, cond_false, oeqF n3 hb1 (by decide), cond_false, e4, aft_v, s153_165, is01_0, cond_true]
  · obtain ⟨b3, b4, b5⟩ := b2
    have b6 : Run false d 147 0 [some (.ref 12), some (.int (nI o)), none, none] [] σ = some (.inl (some (.int (nI 0)), τ2)) := b5
    rw [b6, aft_v, s153_94, z00, cond_true, is01_0, cond_true]
    exact ⟨τ2, b1, crs_bad b3 b4 rfl⟩
end UC
