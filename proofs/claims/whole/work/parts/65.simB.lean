/-! THE PURE PROOFS: reading, both sides: what follows one behind the other (printed by wip/whole/gensim.py) -/
/-- where reading ends and with which steps; or which fault it is and where -/
abbrev RS : Type := (Nat × List CD) ⊕ (Nat × Nat)
def rok (q : Nat) (cs : List CD) : RS := Sum.inl (q, cs)
def rbad (k p : Nat) : RS := Sum.inr (k, p)
def CodeC (τ : PS) (u : Nat) (cs : List CD) : Prop := ∀ j, j < cs.length → AI τ 9 (u + j) = nI (encC (cs.getD j (0, 0)))
def CodeM (τ : PS) (b : Nat) (cs : List CD) : Prop := ∀ j, j < cs.length → AI τ 94 (b + j) = nI (cs.getD j (0, 0)).1 ∧ AI τ 95 (b + j) = nI (cs.getD j (0, 0)).2
def CRs (B : Nat → Nat) (N L u : Nat) (τ : PS) (x : Option PO) : RS → Prop
  | Sum.inl (q', cs) => CAt B N L (u + cs.length) q' τ ∧ CodeC τ u cs ∧ x = some (.inl (some (.int (nI 1)), τ))
  | Sum.inr (k, p) => FI τ 12 2 = nI k ∧ FI τ 12 1 = nI p ∧ x = some (.inl (some (.int (nI 0)), τ))
def CSim (B : Nat → Nat) (N : Nat) (f : Nat → PS → Option PO) (D q : Nat) (r : RS) : Prop := ∀ d L u σ, D ≤ d → L < 176 → u + N ≤ 4400 + q → CAt B N L u q σ → ∃ τ, CF L u σ τ ∧ CRs B N L u τ (f d σ) r
def MRs (B : Nat → Nat) (N rr s o : Nat) (σ τ : PS) : RS → Prop
  | Sum.inl (q', cs) => MF (400 * rr + s) σ τ ∧ MAt B N rr (s + cs.length) o q' τ ∧ CodeM τ (400 * rr + s) cs
  | Sum.inr (k, p) => Bd (400 * rr + s) σ τ k p
def MSim (B : Nat → Nat) (N : Nat) (f : Nat → PS → Option PO) (D o q : Nat) (r : RS) : Prop := ∀ d rr s σ, D ≤ d → s ≤ q → MAt B N rr s o q σ → ∃ τ, MRs B N rr s o σ τ r ∧ f d σ = some (.inl (none, τ))
def RP (N q : Nat) : RS → Prop
  | Sum.inl (q', cs) => q' ≤ N ∧ cs.length + q ≤ q'
  | Sum.inr (k, p) => 1 ≤ k ∧ k ≤ 3 ∧ p ≤ N
def TY (b : Nat) (ti to : List Bool → List Bool) : RS → Prop
  | Sum.inl (_, cs) => ∀ t, t.length ≤ b → tyA (ti t) cs = some (to t)
  | Sum.inr _ => True
/-- more behind it -/
def cmb (c1 : List CD) : RS → RS
  | Sum.inr x => Sum.inr x
  | Sum.inl (q, cs) => Sum.inl (q, c1 ++ cs)
theorem crs_ok {B : Nat → Nat} {N L u q : Nat} {τ : PS} {x : Option PO} {cs : List CD} (h1 : CAt B N L (u + cs.length) q τ) (h2 : CodeC τ u cs) (h3 : x = some (.inl (some (.int (nI 1)), τ))) : CRs B N L u τ x (rok q cs) := ⟨h1, h2, h3⟩
theorem crs_bad {B : Nat → Nat} {N L u k p : Nat} {τ : PS} {x : Option PO} (h1 : FI τ 12 2 = nI k) (h2 : FI τ 12 1 = nI p) (h3 : x = some (.inl (some (.int (nI 0)), τ))) : CRs B N L u τ x (rbad k p) := ⟨h1, h2, h3⟩
theorem mrs_ok {B : Nat → Nat} {N rr s o q : Nat} {σ τ : PS} {cs : List CD} (h1 : MF (400 * rr + s) σ τ) (h2 : MAt B N rr (s + cs.length) o q τ) (h3 : CodeM τ (400 * rr + s) cs) : MRs B N rr s o σ τ (rok q cs) := ⟨h1, h2, h3⟩
theorem mrs_bad {B : Nat → Nat} {N rr s o k p : Nat} {σ τ : PS} (h : Bd (400 * rr + s) σ τ k p) : MRs B N rr s o σ τ (rbad k p) := h
theorem tyA_app : ∀ (c1 : List CD) {t t1 : List Bool} {c2 : List CD}, tyA t c1 = some t1 → tyA t (c1 ++ c2) = tyA t1 c2 := by
  intro c1
  induction c1 with
  | nil =>
    intro t t1 c2 h
    have : some t = some t1 := h
    injection this with this
    subst this
    rfl
  | cons c c1 ih =>
    intro t t1 c2 h
    unfold tyA at h
    show (match tyC t c with | some t' => tyA t' (c1 ++ c2) | none => none) = _
    cases e : tyC t c with
    | none => rw [e] at h; cases h
    | some t' =>
      rw [e] at h
      exact ih h
theorem codeC_nil {τ : PS} {u : Nat} : CodeC τ u [] := fun j hj => absurd hj (Nat.not_lt_zero j)
theorem codeC_one {τ : PS} {u : Nat} {c : CD} (h : AI τ 9 u = nI (encC c)) : CodeC τ u [c] := fun j hj => by
  have : j = 0 := by have : j < 1 := hj; omega
  subst this
  exact h
theorem codeC_app {τ : PS} {u : Nat} {c1 c2 : List CD} (h1 : CodeC τ u c1) (h2 : CodeC τ (u + c1.length) c2) : CodeC τ u (c1 ++ c2) := by
  intro j hj
  rw [List.length_append] at hj
  rcases Nat.lt_or_ge j c1.length with w | w
  · rw [List.getD_eq_getElem?_getD, List.getElem?_append_left w, ← List.getD_eq_getElem?_getD]; exact h1 j w
  · obtain ⟨i, rfl⟩ : ∃ i, j = c1.length + i := ⟨j - c1.length, by omega⟩
    rw [List.getD_eq_getElem?_getD, List.getElem?_append_right w, Nat.add_sub_cancel_left, ← List.getD_eq_getElem?_getD, ← Nat.add_assoc]
    exact h2 i (by omega)
theorem codeC_cf {σ τ : PS} {L u u' : Nat} {cs : List CD} (h : CodeC σ u cs) (g : CF L u' σ τ) (hu : u + cs.length ≤ u') : CodeC τ u cs := fun j hj => by
  rw [g.2.2.2.2.2.2 (u + j) (by omega)]; exact h j hj
theorem codeM_nil {τ : PS} {u : Nat} : CodeM τ u [] := fun j hj => absurd hj (Nat.not_lt_zero j)
theorem codeM_one {τ : PS} {u a b : Nat} (h1 : AI τ 94 u = nI a) (h2 : AI τ 95 u = nI b) : CodeM τ u [(a, b)] := fun j hj => by
  have : j = 0 := by have : j < 1 := hj; omega
  subst this
  exact ⟨h1, h2⟩
theorem codeM_app {τ : PS} {u : Nat} {c1 c2 : List CD} (h1 : CodeM τ u c1) (h2 : CodeM τ (u + c1.length) c2) : CodeM τ u (c1 ++ c2) := by
  intro j hj
  rw [List.length_append] at hj
  rcases Nat.lt_or_ge j c1.length with w | w
  · rw [List.getD_eq_getElem?_getD, List.getElem?_append_left w, ← List.getD_eq_getElem?_getD]; exact h1 j w
  · obtain ⟨i, rfl⟩ : ∃ i, j = c1.length + i := ⟨j - c1.length, by omega⟩
    rw [List.getD_eq_getElem?_getD, List.getElem?_append_right w, Nat.add_sub_cancel_left, ← List.getD_eq_getElem?_getD, ← Nat.add_assoc]
    exact h2 i (by omega)
theorem codeM_mf {σ τ : PS} {u u' : Nat} {cs : List CD} (h : CodeM σ u cs) (g : MF u' σ τ) (hu : u + cs.length ≤ u') : CodeM τ u cs := fun j hj => by
  rw [(g.2.2.2.2.2 (u + j) (by omega)).1, (g.2.2.2.2.2 (u + j) (by omega)).2]; exact h j hj
theorem ca_tok {B : Nat → Nat} {N L u q : Nat} {σ : PS} (h : CAt B N L u q σ) : FI σ 12 5 = nI (tkN B N q) := by
  obtain ⟨T, i, h1, h2, h3, h4, h5, -⟩ := h
  exact h5
theorem ca_val {B : Nat → Nat} {N L u q : Nat} {σ : PS} (h : CAt B N L u q σ) : FI σ 12 6 = nI (nvN B N q) := by
  obtain ⟨T, i, h1, h2, h3, h4, h5, h6, -⟩ := h
  exact h6
/-- one more after some code -/
theorem crs_cmb {B : Nat → Nat} {N L u : Nat} {τ1 τ : PS} {x : Option PO} {c1 : List CD} {r : RS} (h1 : CodeC τ1 u c1) (hf : CF L (u + c1.length) τ1 τ) (h : CRs B N L (u + c1.length) τ x r) : CRs B N L u τ x (cmb c1 r) := by
  rcases r with ⟨q, cs⟩ | ⟨k, p⟩
  case inr => exact h
  case inl =>
    obtain ⟨a, b, c⟩ := h
    refine ⟨?_, codeC_app (codeC_cf h1 hf (Nat.le_refl _)) b, c⟩
    rw [List.length_append, ← Nat.add_assoc]; exact a
theorem mrs_cmb {B : Nat → Nat} {N rr s o : Nat} {σ τ1 τ : PS} {c1 : List CD} {r : RS} (hm : MF (400 * rr + s) σ τ1) (h1 : CodeM τ1 (400 * rr + s) c1) (h : MRs B N rr (s + c1.length) o τ1 τ r) : MRs B N rr s o σ τ (cmb c1 r) := by
  rcases r with ⟨q, cs⟩ | ⟨k, p⟩
  case inr => exact ⟨mf_t hm h.1 (by omega), h.2⟩
  case inl =>
    obtain ⟨a, b, c⟩ := h
    have e : 400 * rr + (s + c1.length) = 400 * rr + s + c1.length := by omega
    rw [e] at a c
    refine ⟨mf_t hm a (by omega), ?_, codeM_app (codeM_mf h1 a (Nat.le_refl _)) c⟩
    rw [List.length_append, ← Nat.add_assoc]; exact b
theorem rp_cmb {N q q1 : Nat} {c1 : List CD} {r : RS} (h1 : c1.length + q ≤ q1) (h : RP N q1 r) : RP N q (cmb c1 r) := by
  rcases r with ⟨q', cs⟩ | ⟨k, p⟩
  case inr => exact h
  case inl =>
    obtain ⟨a, b⟩ := h
    refine ⟨a, ?_⟩
    rw [List.length_append]; omega
theorem ty_cmb {b b' : Nat} {ti tm to : List Bool → List Bool} {c1 : List CD} {r : RS} (hb : b ≤ b') (h1 : ∀ t, t.length ≤ b → tyA (ti t) c1 = some (tm t)) (h : TY b' tm to r) : TY b ti to (cmb c1 r) := by
  rcases r with ⟨q', cs⟩ | ⟨k, p⟩
  case inr => trivial
  case inl =>
    intro t ht
    show tyA (ti t) (c1 ++ cs) = _
    rw [tyA_app c1 (h1 t ht)]
    exact h t (by omega)
section SB
variable {B : Nat → Nat} {N q D o : Nat} {r1 r2 : RS}
/-- the loop of a product, in the class -/
def CL148 (B : Nat → Nat) (N o D q : Nat) (r : RS) : Prop := ∀ (i : Nat) (z3 : Option Value), i ≤ q → CSim B N (fun d σ => Run false (d + 1) 148 12 [some (.ref 12), some (.int (nI o)), some (.int (nI i)), z3] [] σ) D q r
def ML186 (B : Nat → Nat) (N o D q : Nat) (r : RS) : Prop := ∀ z1 : Option Value, MSim B N (fun d σ => Run false (d + 1) 186 4 [some (.ref 85), z1] [] σ) D o q r
theorem c148_nil (hN : N ≤ 400) (h0 : tkN B N q ≠ 42) (h1 : tkN B N q ≠ 47) : CL148 B N o D q (rok q []) := by
  intro i z3 hi d L u σ hd hL hu hC
  have hq := ca_le hC
  refine ⟨σ, cf_r, crs_ok hC codeC_nil ?_⟩
  show Run false (d + 1) 148 12 _ [] σ = _
  rw [s148_12, is01_1, cond_true]
  cases obl (nI 400 ≤ nI i)
  · rw [cond_false, ca_tok hC, oeqF h0 tk_b (by decide), cond_false, oeqF h1 tk_b (by decide), cond_false]
  · rfl
theorem c148_b0 {k p : Nat} (hN : N ≤ 400) (hD : 1 ≤ D) (ht : tkN B N q = 42) (h1 : CSim B N (fun d σ => Run false d 149 0 [some (.ref 12), some (.int (nI o)), none] [] σ) D (nxN B N q) (rbad k p)) : CL148 B N o D q (rbad k p) := by
  intro i z3 hi d L u σ hd hL hu hC
  have hq : q < N := Nat.lt_of_not_le (fun v => by rw [tk_end.mpr v] at ht; omega)
  have hi4 : obl (nI 400 ≤ nI i) = false := oleF (by omega) (by omega)
  obtain ⟨τ1, a1, a2, a3⟩ := c141 (d := d) (by omega) hC hq
  have hnx := nx_ok (B := B) hq
  obtain ⟨τ2, b1, b2, b3, b4⟩ := h1 d L u τ1 hd hL (by omega) a2
  refine ⟨τ2, cf_t a1 b1 (Nat.le_refl _), crs_bad b2 b3 ?_⟩
  show Run false (d + 1) 148 12 _ [] σ = _
  have b5 : Run false d 149 0 [some (.ref 12), some (.int (nI o)), none] [] τ1 = some (.inl (some (.int (nI 0)), τ2)) := b4
  rw [s148_12, hi4, cond_false, ca_tok hC, oeqT ht, cond_true, cond_true, a3, aft_n, s148_60, b5, aft_v, s148_65, z00, cond_true, is01_0, cond_true]
theorem c148_k0 {q1 : Nat} {c1 : List CD} (hN : N ≤ 400) (hD : 1 ≤ D) (ht : tkN B N q = 42) (h1 : CSim B N (fun d σ => Run false d 149 0 [some (.ref 12), some (.int (nI o)), none] [] σ) D (nxN B N q) (rok q1 c1)) (hp : RP N (nxN B N q) (rok q1 c1)) (h2 : CL148 B N o D q1 r2) : CL148 B N o D q (cmb (c1 ++ [(8, 0)]) r2) := by
  intro i z3 hi d L u σ hd hL hu hC
  have hq : q < N := Nat.lt_of_not_le (fun v => by rw [tk_end.mpr v] at ht; omega)
  have hi4 : obl (nI 400 ≤ nI i) = false := oleF (by omega) (by omega)
  obtain ⟨τ1, a1, a2, a3⟩ := c141 (d := d) (by omega) hC hq
  have hnx := nx_ok (B := B) hq
  obtain ⟨p1, p2⟩ := hp
  obtain ⟨τ2, b1, b2, b3, b4⟩ := h1 d L u τ1 hd hL (by omega) a2
  obtain ⟨τ3, e1, e2, e3, e4⟩ := c96 (d := d) (v := nI 10012) (by omega) hL (show u + c1.length < 4400 by omega) b2
  obtain ⟨τ4, g1, g2⟩ := h2 (i + 1) (some (.int (nI 10012))) (by omega) d L (u + c1.length + 1) τ3 hd hL (by omega) e2
  have cc : CodeC τ3 u (c1 ++ [(8, 0)]) := codeC_app (codeC_cf b3 e1 (Nat.le_refl _)) (codeC_one e3)
  have el : u + (c1 ++ [((8 : Nat), (0 : Nat))]).length = u + c1.length + 1 := by rw [List.length_append]; rfl
  refine ⟨τ4, cf_t (cf_t (cf_t a1 b1 (Nat.le_refl _)) e1 (by omega)) g1 (by omega), crs_cmb cc (by rw [el]; exact g1) ?_⟩
  rw [el]
  have b5 : Run false d 149 0 [some (.ref 12), some (.int (nI o)), none] [] τ1 = some (.inl (some (.int (nI 1)), τ2)) := b4
  have er : Run false (d + 1) 148 12 [some (.ref 12), some (.int (nI o)), some (.int (nI i)), z3] [] σ = Run false (d + 1) 148 12 [some (.ref 12), some (.int (nI o)), some (.int (nI (i + 1))), (some (.int (nI 10012)))] [] τ3 := by
    rw [s148_12, hi4, cond_false, ca_tok hC, oeqT ht, cond_true, cond_true, a3, aft_n, s148_60, b5, aft_v, s148_65, z10, cond_false, e4, aft_n, s148_78, nI_add]
  show CRs B N L (u + c1.length + 1) τ4 (Run false (d + 1) 148 12 [some (.ref 12), some (.int (nI o)), some (.int (nI i)), z3] [] σ) r2
  rw [er]
  exact g2
theorem c148_b1 {k p : Nat} (hN : N ≤ 400) (hD : 1 ≤ D) (ht : tkN B N q = 47) (h1 : CSim B N (fun d σ => Run false d 149 0 [some (.ref 12), some (.int (nI o)), none] [] σ) D (nxN B N q) (rbad k p)) : CL148 B N o D q (rbad k p) := by
  intro i z3 hi d L u σ hd hL hu hC
  have hq : q < N := Nat.lt_of_not_le (fun v => by rw [tk_end.mpr v] at ht; omega)
  have hi4 : obl (nI 400 ≤ nI i) = false := oleF (by omega) (by omega)
  obtain ⟨τ1, a1, a2, a3⟩ := c141 (d := d) (by omega) hC hq
  have hnx := nx_ok (B := B) hq
  obtain ⟨τ2, b1, b2, b3, b4⟩ := h1 d L u τ1 hd hL (by omega) a2
  refine ⟨τ2, cf_t a1 b1 (Nat.le_refl _), crs_bad b2 b3 ?_⟩
  show Run false (d + 1) 148 12 _ [] σ = _
  have b5 : Run false d 149 0 [some (.ref 12), some (.int (nI o)), none] [] τ1 = some (.inl (some (.int (nI 0)), τ2)) := b4
  rw [s148_12, hi4, cond_false, ca_tok hC, oeqF (show tkN B N q ≠ 42 by omega) tk_b (by decide), cond_false, oeqT ht, cond_true, cond_false, a3, aft_n, s148_60, b5, aft_v, s148_65, z00, cond_true, is01_0, cond_true]
theorem c148_k1 {q1 : Nat} {c1 : List CD} (hN : N ≤ 400) (hD : 1 ≤ D) (ht : tkN B N q = 47) (h1 : CSim B N (fun d σ => Run false d 149 0 [some (.ref 12), some (.int (nI o)), none] [] σ) D (nxN B N q) (rok q1 c1)) (hp : RP N (nxN B N q) (rok q1 c1)) (h2 : CL148 B N o D q1 r2) : CL148 B N o D q (cmb (c1 ++ [(9, 0)]) r2) := by
  intro i z3 hi d L u σ hd hL hu hC
  have hq : q < N := Nat.lt_of_not_le (fun v => by rw [tk_end.mpr v] at ht; omega)
  have hi4 : obl (nI 400 ≤ nI i) = false := oleF (by omega) (by omega)
  obtain ⟨τ1, a1, a2, a3⟩ := c141 (d := d) (by omega) hC hq
  have hnx := nx_ok (B := B) hq
  obtain ⟨p1, p2⟩ := hp
  obtain ⟨τ2, b1, b2, b3, b4⟩ := h1 d L u τ1 hd hL (by omega) a2
  obtain ⟨τ3, e1, e2, e3, e4⟩ := c96 (d := d) (v := nI 10013) (by omega) hL (show u + c1.length < 4400 by omega) b2
  obtain ⟨τ4, g1, g2⟩ := h2 (i + 1) (some (.int (nI 10013))) (by omega) d L (u + c1.length + 1) τ3 hd hL (by omega) e2
  have cc : CodeC τ3 u (c1 ++ [(9, 0)]) := codeC_app (codeC_cf b3 e1 (Nat.le_refl _)) (codeC_one e3)
  have el : u + (c1 ++ [((9 : Nat), (0 : Nat))]).length = u + c1.length + 1 := by rw [List.length_append]; rfl
  refine ⟨τ4, cf_t (cf_t (cf_t a1 b1 (Nat.le_refl _)) e1 (by omega)) g1 (by omega), crs_cmb cc (by rw [el]; exact g1) ?_⟩
  rw [el]
  have b5 : Run false d 149 0 [some (.ref 12), some (.int (nI o)), none] [] τ1 = some (.inl (some (.int (nI 1)), τ2)) := b4
  have er : Run false (d + 1) 148 12 [some (.ref 12), some (.int (nI o)), some (.int (nI i)), z3] [] σ = Run false (d + 1) 148 12 [some (.ref 12), some (.int (nI o)), some (.int (nI (i + 1))), (some (.int (nI 10013)))] [] τ3 := by
    rw [s148_12, hi4, cond_false, ca_tok hC, oeqF (show tkN B N q ≠ 42 by omega) tk_b (by decide), cond_false, oeqT ht, cond_true, cond_false, a3, aft_n, s148_60, b5, aft_v, s148_65, z10, cond_false, e4, aft_n, s148_78, nI_add]
  show CRs B N L (u + c1.length + 1) τ4 (Run false (d + 1) 148 12 [some (.ref 12), some (.int (nI o)), some (.int (nI i)), z3] [] σ) r2
  rw [er]
  exact g2
theorem c148_hb {k p : Nat} (h1 : CSim B N (fun d σ => Run false d 149 0 [some (.ref 12), some (.int (nI o)), none] [] σ) D q (rbad k p)) : CSim B N (fun d σ => Run false d 148 0 [some (.ref 12), some (.int (nI o)), none, none] [] σ) (D + 1) q (rbad k p) := by
  intro d L u σ hd hL hu hC
  obtain ⟨d, rfl⟩ := dS (show 1 ≤ d by omega)
  obtain ⟨τ2, b1, b2, b3, b4⟩ := h1 d L u σ (by omega) hL hu hC
  have b5 : Run false d 149 0 [some (.ref 12), some (.int (nI o)), none] [] σ = some (.inl (some (.int (nI 0)), τ2)) := b4
  refine ⟨τ2, b1, crs_bad b2 b3 ?_⟩
  show Run false (d + 1) 148 0 _ [] σ = _
  rw [s148_0, b5, aft_v, s148_5, z00, cond_true, is01_0, cond_true]
theorem c148_hk {q1 : Nat} {c1 : List CD} (h1 : CSim B N (fun d σ => Run false d 149 0 [some (.ref 12), some (.int (nI o)), none] [] σ) D q (rok q1 c1)) (hp : RP N q (rok q1 c1)) (h2 : CL148 B N o D q1 r2) : CSim B N (fun d σ => Run false d 148 0 [some (.ref 12), some (.int (nI o)), none, none] [] σ) (D + 1) q (cmb c1 r2) := by
  intro d L u σ hd hL hu hC
  obtain ⟨d, rfl⟩ := dS (show 1 ≤ d by omega)
  obtain ⟨p1, p2⟩ := hp
  obtain ⟨τ2, b1, b2, b3, b4⟩ := h1 d L u σ (by omega) hL hu hC
  obtain ⟨τ4, g1, g2⟩ := h2 0 none (Nat.zero_le _) d L (u + c1.length) τ2 (by omega) hL (by omega) b2
  have b5 : Run false d 149 0 [some (.ref 12), some (.int (nI o)), none] [] σ = some (.inl (some (.int (nI 1)), τ2)) := b4
  refine ⟨τ4, cf_t b1 g1 (by omega), crs_cmb b3 g1 ?_⟩
  have er : Run false (d + 1) 148 0 [some (.ref 12), some (.int (nI o)), none, none] [] σ = Run false (d + 1) 148 12 [some (.ref 12), some (.int (nI o)), some (.int (nI 0)), none] [] τ2 := by
    rw [s148_0, b5, aft_v, s148_5, z10, cond_false]
  show CRs B N L (u + c1.length) τ4 (Run false (d + 1) 148 0 [some (.ref 12), some (.int (nI o)), none, none] [] σ) r2
  rw [er]
  exact g2
theorem m186_nil (hN : N ≤ 400) (hB : ∀ j, j < N → B j ≤ 255) (hD : 2 ≤ D) (h0 : tkN B N q ≠ 42) (h1 : tkN B N q ≠ 47) : ML186 B N o D q (rok q []) := by
  intro z1 d rr s σ hd hs hM
  obtain ⟨τ1, a1, a2, a3, a4⟩ := m174 (d := d) (by omega) hN hB hM
  obtain ⟨τ2, b1, b2, b3, b4⟩ := m174 (d := d) (by omega) hN hB a2
  refine ⟨τ2, mrs_ok (mf_t (mf_at a1) (mf_at b1) (Nat.le_refl _)) b2 codeM_nil, ?_⟩
  show Run false (d + 1) 186 4 _ [] σ = _
  rw [s186_4, c172_t (by omega) hM.2.1, aft_v, s186_8, z10, cond_false, a4, aft_v, s186_15, ch_b (c := 42) rfl hB, Nbf h0, cond_false, b4, aft_v, s186_24, ch_b (c := 47) rfl hB, Nbf h1, cond_false]
/-- a fault ends the loop -/
theorem m186_st {d p : Nat} {z1 : Option Value} {σ : PS} (hd : 1 ≤ d) (h : FI σ 85 5 = nI p) (hp : p < 2 ^ 31) : Run false (d + 1) 186 4 [some (.ref 85), z1] [] σ = some (.inl (none, σ)) := by
  rw [s186_4, c172_f hd h hp, aft_v, s186_8, z00, cond_true]
theorem m186_b0 {k p : Nat} (hN : N ≤ 400) (hB : ∀ j, j < N → B j ≤ 255) (hD : 2 ≤ D) (ht : tkN B N q = 42) (h1 : MSim B N (fun d σ => Run false d 185 0 [some (.ref 85), none, none, none] [] σ) D o (nxN B N q) (rbad k p)) (hp : p ≤ N) : ML186 B N o D q (rbad k p) := by
  intro z1 d rr s σ hd hs hM
  obtain ⟨hq, -⟩ := (tk_sg (show strS.contains 42 = true from rfl)).mp ht
  have hch : chN B N q = 42 := (ch_sg (show strS.contains 42 = true from rfl)).mpr ht
  have hnx := nx_ok (B := B) hq
  obtain ⟨τ1, a1, a2, a3, a4⟩ := m174 (d := d) (by omega) hN hB hM
  obtain ⟨τ2, b1, b2, b3, b4⟩ := m174 (d := d) (by omega) hN hB a2
  have t5 : At1 σ (wFI τ2 85 4 (nI (q + 1))) (q + 1) := at_w (at_t a1 b1)
  have m5 : MAt B N rr s o (nxN B N q) (wFI τ2 85 4 (nI (q + 1))) := ma_at hM t5 (by omega) (by unfold nxN; rw [te_sg (show strS.contains 42 = true from rfl) ht])
  obtain ⟨τ3, c1, c2⟩ := h1 d rr s _ hd (by omega) m5
  have c3 : Run false d 185 0 [some (.ref 85), none, none, none] [] (wFI τ2 85 4 (nI (q + 1))) = some (.inl (none, τ3)) := c2
  refine ⟨τ3, bd_t (mf_at t5) c1, ?_⟩
  show Run false (d + 1) 186 4 _ [] σ = _
  rw [s186_4, c172_t (by omega) hM.2.1, aft_v, s186_8, z10, cond_false, a4, aft_v, s186_15, ch_b (c := 42) rfl hB, Nbt ht, cond_true, b4, aft_v, s186_33, b3, nI_add, hch, c3, aft_n, s186_48, oeqT rfl, cond_true, m181_b (by omega) c1.2.1 (by omega), aft_n, s186_66, m186_st (by omega) c1.2.1 (by omega)]
theorem m186_k0 {q1 : Nat} {c1 : List CD} (hN : N ≤ 400) (hB : ∀ j, j < N → B j ≤ 255) (hD : 2 ≤ D) (ht : tkN B N q = 42) (h1 : MSim B N (fun d σ => Run false d 185 0 [some (.ref 85), none, none, none] [] σ) D o (nxN B N q) (rok q1 c1)) (hp : RP N (nxN B N q) (rok q1 c1)) (h2 : ML186 B N o D q1 r2) : ML186 B N o D q (cmb (c1 ++ [(8, 0)]) r2) := by
  intro z1 d rr s σ hd hs hM
  obtain ⟨hq, -⟩ := (tk_sg (show strS.contains 42 = true from rfl)).mp ht
  have hch : chN B N q = 42 := (ch_sg (show strS.contains 42 = true from rfl)).mpr ht
  have hnx := nx_ok (B := B) hq
  obtain ⟨τ1, a1, a2, a3, a4⟩ := m174 (d := d) (by omega) hN hB hM
  obtain ⟨τ2, b1, b2, b3, b4⟩ := m174 (d := d) (by omega) hN hB a2
  have t5 : At1 σ (wFI τ2 85 4 (nI (q + 1))) (q + 1) := at_w (at_t a1 b1)
  have m5 : MAt B N rr s o (nxN B N q) (wFI τ2 85 4 (nI (q + 1))) := ma_at hM t5 (by omega) (by unfold nxN; rw [te_sg (show strS.contains 42 = true from rfl) ht])
  obtain ⟨p1, p2⟩ := hp
  obtain ⟨τ3, ⟨c1', c2', c3'⟩, c4⟩ := h1 d rr s _ hd (by omega) m5
  have c5 : Run false d 185 0 [some (.ref 85), none, none, none] [] (wFI τ2 85 4 (nI (q + 1))) = some (.inl (none, τ3)) := c4
  obtain ⟨τ4, e1, e2, e3, e4, e5⟩ := m181 (d := d) (a := 8) (b := 0) (by omega) (show s + c1.length < 400 by omega) c2'
  have eb : 400 * rr + (s + c1.length) = 400 * rr + s + c1.length := by omega
  rw [eb] at e1 e3 e4
  have el : s + (c1 ++ [((8 : Nat), (0 : Nat))]).length = s + c1.length + 1 := by rw [List.length_append]; rfl
  have cc : CodeM τ4 (400 * rr + s) (c1 ++ [(8, 0)]) := codeM_app (codeM_mf c3' e1 (Nat.le_refl _)) (codeM_one e3 e4)
  obtain ⟨τ5, g1, g2⟩ := h2 (some (.int (nI 42))) d rr (s + c1.length + 1) τ4 hd (by omega) e2
  refine ⟨τ5, mrs_cmb (mf_t (mf_t (mf_at t5) c1' (Nat.le_refl _)) e1 (by omega)) cc (by rw [el]; exact g1), ?_⟩
  show Run false (d + 1) 186 4 _ [] σ = _
  rw [s186_4, c172_t (by omega) hM.2.1, aft_v, s186_8, z10, cond_false, a4, aft_v, s186_15, ch_b (c := 42) rfl hB, Nbt ht, cond_true, b4, aft_v, s186_33, b3, nI_add, hch, c5, aft_n, s186_48, oeqT rfl, cond_true, e5, aft_n, s186_66]
  exact g2
theorem m186_b1 {k p : Nat} (hN : N ≤ 400) (hB : ∀ j, j < N → B j ≤ 255) (hD : 2 ≤ D) (ht : tkN B N q = 47) (h1 : MSim B N (fun d σ => Run false d 185 0 [some (.ref 85), none, none, none] [] σ) D o (nxN B N q) (rbad k p)) (hp : p ≤ N) : ML186 B N o D q (rbad k p) := by
  intro z1 d rr s σ hd hs hM
  obtain ⟨hq, -⟩ := (tk_sg (show strS.contains 47 = true from rfl)).mp ht
  have hch : chN B N q = 47 := (ch_sg (show strS.contains 47 = true from rfl)).mpr ht
  have hnx := nx_ok (B := B) hq
  obtain ⟨τ1, a1, a2, a3, a4⟩ := m174 (d := d) (by omega) hN hB hM
  obtain ⟨τ2, b1, b2, b3, b4⟩ := m174 (d := d) (by omega) hN hB a2
  obtain ⟨τ2b, w1, w2, w3, w4⟩ := m174 (d := d) (by omega) hN hB b2
  have t5 : At1 σ (wFI τ2b 85 4 (nI (q + 1))) (q + 1) := at_w (at_t (at_t a1 b1) w1)
  have m5 : MAt B N rr s o (nxN B N q) (wFI τ2b 85 4 (nI (q + 1))) := ma_at hM t5 (by omega) (by unfold nxN; rw [te_sg (show strS.contains 47 = true from rfl) ht])
  obtain ⟨τ3, c1, c2⟩ := h1 d rr s _ hd (by omega) m5
  have c3 : Run false d 185 0 [some (.ref 85), none, none, none] [] (wFI τ2b 85 4 (nI (q + 1))) = some (.inl (none, τ3)) := c2
  refine ⟨τ3, bd_t (mf_at t5) c1, ?_⟩
  show Run false (d + 1) 186 4 _ [] σ = _
  rw [s186_4, c172_t (by omega) hM.2.1, aft_v, s186_8, z10, cond_false, a4, aft_v, s186_15, ch_b (c := 42) rfl hB, Nbf (show tkN B N q ≠ 42 by omega), cond_false, b4, aft_v, s186_24, ch_b (c := 47) rfl hB, Nbt ht, cond_true, w4, aft_v, s186_33, w3, nI_add, hch, c3, aft_n, s186_48, oeqF (show 47 ≠ 42 by decide) (by decide) (by decide), cond_false, m181_b (by omega) c1.2.1 (by omega), aft_n, s186_66, m186_st (by omega) c1.2.1 (by omega)]
theorem m186_k1 {q1 : Nat} {c1 : List CD} (hN : N ≤ 400) (hB : ∀ j, j < N → B j ≤ 255) (hD : 2 ≤ D) (ht : tkN B N q = 47) (h1 : MSim B N (fun d σ => Run false d 185 0 [some (.ref 85), none, none, none] [] σ) D o (nxN B N q) (rok q1 c1)) (hp : RP N (nxN B N q) (rok q1 c1)) (h2 : ML186 B N o D q1 r2) : ML186 B N o D q (cmb (c1 ++ [(9, 0)]) r2) := by
  intro z1 d rr s σ hd hs hM
  obtain ⟨hq, -⟩ := (tk_sg (show strS.contains 47 = true from rfl)).mp ht
  have hch : chN B N q = 47 := (ch_sg (show strS.contains 47 = true from rfl)).mpr ht
  have hnx := nx_ok (B := B) hq
  obtain ⟨τ1, a1, a2, a3, a4⟩ := m174 (d := d) (by omega) hN hB hM
  obtain ⟨τ2, b1, b2, b3, b4⟩ := m174 (d := d) (by omega) hN hB a2
  obtain ⟨τ2b, w1, w2, w3, w4⟩ := m174 (d := d) (by omega) hN hB b2
  have t5 : At1 σ (wFI τ2b 85 4 (nI (q + 1))) (q + 1) := at_w (at_t (at_t a1 b1) w1)
  have m5 : MAt B N rr s o (nxN B N q) (wFI τ2b 85 4 (nI (q + 1))) := ma_at hM t5 (by omega) (by unfold nxN; rw [te_sg (show strS.contains 47 = true from rfl) ht])
  obtain ⟨p1, p2⟩ := hp
  obtain ⟨τ3, ⟨c1', c2', c3'⟩, c4⟩ := h1 d rr s _ hd (by omega) m5
  have c5 : Run false d 185 0 [some (.ref 85), none, none, none] [] (wFI τ2b 85 4 (nI (q + 1))) = some (.inl (none, τ3)) := c4
  obtain ⟨τ4, e1, e2, e3, e4, e5⟩ := m181 (d := d) (a := 9) (b := 0) (by omega) (show s + c1.length < 400 by omega) c2'
  have eb : 400 * rr + (s + c1.length) = 400 * rr + s + c1.length := by omega
  rw [eb] at e1 e3 e4
  have el : s + (c1 ++ [((9 : Nat), (0 : Nat))]).length = s + c1.length + 1 := by rw [List.length_append]; rfl
  have cc : CodeM τ4 (400 * rr + s) (c1 ++ [(9, 0)]) := codeM_app (codeM_mf c3' e1 (Nat.le_refl _)) (codeM_one e3 e4)
  obtain ⟨τ5, g1, g2⟩ := h2 (some (.int (nI 47))) d rr (s + c1.length + 1) τ4 hd (by omega) e2
  refine ⟨τ5, mrs_cmb (mf_t (mf_t (mf_at t5) c1' (Nat.le_refl _)) e1 (by omega)) cc (by rw [el]; exact g1), ?_⟩
  show Run false (d + 1) 186 4 _ [] σ = _
  rw [s186_4, c172_t (by omega) hM.2.1, aft_v, s186_8, z10, cond_false, a4, aft_v, s186_15, ch_b (c := 42) rfl hB, Nbf (show tkN B N q ≠ 42 by omega), cond_false, b4, aft_v, s186_24, ch_b (c := 47) rfl hB, Nbt ht, cond_true, w4, aft_v, s186_33, w3, nI_add, hch, c5, aft_n, s186_48, oeqF (show 47 ≠ 42 by decide) (by decide) (by decide), cond_false, e5, aft_n, s186_66]
  exact g2
theorem m186_hb {k p : Nat} (hD : 1 ≤ D) (h1 : MSim B N (fun d σ => Run false d 185 0 [some (.ref 85), none, none, none] [] σ) D o q (rbad k p)) (hp : p < 2 ^ 31) : MSim B N (fun d σ => Run false d 186 0 [some (.ref 85), none] [] σ) (D + 1) o q (rbad k p) := by
  intro d rr s σ hd hs hM
  obtain ⟨d, rfl⟩ := dS (show 1 ≤ d by omega)
  obtain ⟨τ3, c1, c2⟩ := h1 d rr s σ (by omega) hs hM
  have c3 : Run false d 185 0 [some (.ref 85), none, none, none] [] σ = some (.inl (none, τ3)) := c2
  refine ⟨τ3, c1, ?_⟩
  show Run false (d + 1) 186 0 _ [] σ = _
  rw [s186_0, c3, aft_n, m186_st (by omega) c1.2.1 hp]
theorem m186_hk {q1 : Nat} {c1 : List CD} (h1 : MSim B N (fun d σ => Run false d 185 0 [some (.ref 85), none, none, none] [] σ) D o q (rok q1 c1)) (hp : RP N q (rok q1 c1)) (h2 : ML186 B N o D q1 r2) : MSim B N (fun d σ => Run false d 186 0 [some (.ref 85), none] [] σ) (D + 1) o q (cmb c1 r2) := by
  intro d rr s σ hd hs hM
  obtain ⟨d, rfl⟩ := dS (show 1 ≤ d by omega)
  obtain ⟨p1, p2⟩ := hp
  obtain ⟨τ3, ⟨c1', c2', c3'⟩, c4⟩ := h1 d rr s σ (by omega) hs hM
  have c5 : Run false d 185 0 [some (.ref 85), none, none, none] [] σ = some (.inl (none, τ3)) := c4
  obtain ⟨τ5, g1, g2⟩ := h2 none d rr (s + c1.length) τ3 (by omega) (by omega) c2'
  refine ⟨τ5, mrs_cmb c1' c3' g1, ?_⟩
  show Run false (d + 1) 186 0 _ [] σ = _
  rw [s186_0, c5, aft_n]
  exact g2
/-- the loop of a sum, in the class -/
def CL147 (B : Nat → Nat) (N o D q : Nat) (r : RS) : Prop := ∀ (i : Nat) (z3 : Option Value), i ≤ q → CSim B N (fun d σ => Run false (d + 1) 147 12 [some (.ref 12), some (.int (nI o)), some (.int (nI i)), z3] [] σ) D q r
def ML187 (B : Nat → Nat) (N o D q : Nat) (r : RS) : Prop := ∀ z1 : Option Value, MSim B N (fun d σ => Run false (d + 1) 187 4 [some (.ref 85), z1] [] σ) D o q r
theorem c147_nil (hN : N ≤ 400) (h0 : tkN B N q ≠ 43) (h1 : tkN B N q ≠ 45) : CL147 B N o D q (rok q []) := by
  intro i z3 hi d L u σ hd hL hu hC
  have hq := ca_le hC
  refine ⟨σ, cf_r, crs_ok hC codeC_nil ?_⟩
  show Run false (d + 1) 147 12 _ [] σ = _
  rw [s147_12, is01_1, cond_true]
  cases obl (nI 400 ≤ nI i)
  · rw [cond_false, ca_tok hC, oeqF h0 tk_b (by decide), cond_false, oeqF h1 tk_b (by decide), cond_false]
  · rfl
theorem c147_b0 {k p : Nat} (hN : N ≤ 400) (hD : 1 ≤ D) (ht : tkN B N q = 43) (h1 : CSim B N (fun d σ => Run false d 148 0 [some (.ref 12), some (.int (nI o)), none, none] [] σ) D (nxN B N q) (rbad k p)) : CL147 B N o D q (rbad k p) := by
  intro i z3 hi d L u σ hd hL hu hC
  have hq : q < N := Nat.lt_of_not_le (fun v => by rw [tk_end.mpr v] at ht; omega)
  have hi4 : obl (nI 400 ≤ nI i) = false := oleF (by omega) (by omega)
  obtain ⟨τ1, a1, a2, a3⟩ := c141 (d := d) (by omega) hC hq
  have hnx := nx_ok (B := B) hq
  obtain ⟨τ2, b1, b2, b3, b4⟩ := h1 d L u τ1 hd hL (by omega) a2
  refine ⟨τ2, cf_t a1 b1 (Nat.le_refl _), crs_bad b2 b3 ?_⟩
  show Run false (d + 1) 147 12 _ [] σ = _
  have b5 : Run false d 148 0 [some (.ref 12), some (.int (nI o)), none, none] [] τ1 = some (.inl (some (.int (nI 0)), τ2)) := b4
  rw [s147_12, hi4, cond_false, ca_tok hC, oeqT ht, cond_true, cond_true, a3, aft_n, s147_60, b5, aft_v, s147_65, z00, cond_true, is01_0, cond_true]
theorem c147_k0 {q1 : Nat} {c1 : List CD} (hN : N ≤ 400) (hD : 1 ≤ D) (ht : tkN B N q = 43) (h1 : CSim B N (fun d σ => Run false d 148 0 [some (.ref 12), some (.int (nI o)), none, none] [] σ) D (nxN B N q) (rok q1 c1)) (hp : RP N (nxN B N q) (rok q1 c1)) (h2 : CL147 B N o D q1 r2) : CL147 B N o D q (cmb (c1 ++ [(6, 0)]) r2) := by
  intro i z3 hi d L u σ hd hL hu hC
  have hq : q < N := Nat.lt_of_not_le (fun v => by rw [tk_end.mpr v] at ht; omega)
  have hi4 : obl (nI 400 ≤ nI i) = false := oleF (by omega) (by omega)
  obtain ⟨τ1, a1, a2, a3⟩ := c141 (d := d) (by omega) hC hq
  have hnx := nx_ok (B := B) hq
  obtain ⟨p1, p2⟩ := hp
  obtain ⟨τ2, b1, b2, b3, b4⟩ := h1 d L u τ1 hd hL (by omega) a2
  obtain ⟨τ3, e1, e2, e3, e4⟩ := c96 (d := d) (v := nI 10010) (by omega) hL (show u + c1.length < 4400 by omega) b2
  obtain ⟨τ4, g1, g2⟩ := h2 (i + 1) (some (.int (nI 10010))) (by omega) d L (u + c1.length + 1) τ3 hd hL (by omega) e2
  have cc : CodeC τ3 u (c1 ++ [(6, 0)]) := codeC_app (codeC_cf b3 e1 (Nat.le_refl _)) (codeC_one e3)
  have el : u + (c1 ++ [((6 : Nat), (0 : Nat))]).length = u + c1.length + 1 := by rw [List.length_append]; rfl
  refine ⟨τ4, cf_t (cf_t (cf_t a1 b1 (Nat.le_refl _)) e1 (by omega)) g1 (by omega), crs_cmb cc (by rw [el]; exact g1) ?_⟩
  rw [el]
  have b5 : Run false d 148 0 [some (.ref 12), some (.int (nI o)), none, none] [] τ1 = some (.inl (some (.int (nI 1)), τ2)) := b4
  have er : Run false (d + 1) 147 12 [some (.ref 12), some (.int (nI o)), some (.int (nI i)), z3] [] σ = Run false (d + 1) 147 12 [some (.ref 12), some (.int (nI o)), some (.int (nI (i + 1))), (some (.int (nI 10010)))] [] τ3 := by
    rw [s147_12, hi4, cond_false, ca_tok hC, oeqT ht, cond_true, cond_true, a3, aft_n, s147_60, b5, aft_v, s147_65, z10, cond_false, e4, aft_n, s147_78, nI_add]
  show CRs B N L (u + c1.length + 1) τ4 (Run false (d + 1) 147 12 [some (.ref 12), some (.int (nI o)), some (.int (nI i)), z3] [] σ) r2
  rw [er]
  exact g2
theorem c147_b1 {k p : Nat} (hN : N ≤ 400) (hD : 1 ≤ D) (ht : tkN B N q = 45) (h1 : CSim B N (fun d σ => Run false d 148 0 [some (.ref 12), some (.int (nI o)), none, none] [] σ) D (nxN B N q) (rbad k p)) : CL147 B N o D q (rbad k p) := by
  intro i z3 hi d L u σ hd hL hu hC
  have hq : q < N := Nat.lt_of_not_le (fun v => by rw [tk_end.mpr v] at ht; omega)
  have hi4 : obl (nI 400 ≤ nI i) = false := oleF (by omega) (by omega)
  obtain ⟨τ1, a1, a2, a3⟩ := c141 (d := d) (by omega) hC hq
  have hnx := nx_ok (B := B) hq
  obtain ⟨τ2, b1, b2, b3, b4⟩ := h1 d L u τ1 hd hL (by omega) a2
  refine ⟨τ2, cf_t a1 b1 (Nat.le_refl _), crs_bad b2 b3 ?_⟩
  show Run false (d + 1) 147 12 _ [] σ = _
  have b5 : Run false d 148 0 [some (.ref 12), some (.int (nI o)), none, none] [] τ1 = some (.inl (some (.int (nI 0)), τ2)) := b4
  rw [s147_12, hi4, cond_false, ca_tok hC, oeqF (show tkN B N q ≠ 43 by omega) tk_b (by decide), cond_false, oeqT ht, cond_true, cond_false, a3, aft_n, s147_60, b5, aft_v, s147_65, z00, cond_true, is01_0, cond_true]
theorem c147_k1 {q1 : Nat} {c1 : List CD} (hN : N ≤ 400) (hD : 1 ≤ D) (ht : tkN B N q = 45) (h1 : CSim B N (fun d σ => Run false d 148 0 [some (.ref 12), some (.int (nI o)), none, none] [] σ) D (nxN B N q) (rok q1 c1)) (hp : RP N (nxN B N q) (rok q1 c1)) (h2 : CL147 B N o D q1 r2) : CL147 B N o D q (cmb (c1 ++ [(7, 0)]) r2) := by
  intro i z3 hi d L u σ hd hL hu hC
  have hq : q < N := Nat.lt_of_not_le (fun v => by rw [tk_end.mpr v] at ht; omega)
  have hi4 : obl (nI 400 ≤ nI i) = false := oleF (by omega) (by omega)
  obtain ⟨τ1, a1, a2, a3⟩ := c141 (d := d) (by omega) hC hq
  have hnx := nx_ok (B := B) hq
  obtain ⟨p1, p2⟩ := hp
  obtain ⟨τ2, b1, b2, b3, b4⟩ := h1 d L u τ1 hd hL (by omega) a2
  obtain ⟨τ3, e1, e2, e3, e4⟩ := c96 (d := d) (v := nI 10011) (by omega) hL (show u + c1.length < 4400 by omega) b2
  obtain ⟨τ4, g1, g2⟩ := h2 (i + 1) (some (.int (nI 10011))) (by omega) d L (u + c1.length + 1) τ3 hd hL (by omega) e2
  have cc : CodeC τ3 u (c1 ++ [(7, 0)]) := codeC_app (codeC_cf b3 e1 (Nat.le_refl _)) (codeC_one e3)
  have el : u + (c1 ++ [((7 : Nat), (0 : Nat))]).length = u + c1.length + 1 := by rw [List.length_append]; rfl
  refine ⟨τ4, cf_t (cf_t (cf_t a1 b1 (Nat.le_refl _)) e1 (by omega)) g1 (by omega), crs_cmb cc (by rw [el]; exact g1) ?_⟩
  rw [el]
  have b5 : Run false d 148 0 [some (.ref 12), some (.int (nI o)), none, none] [] τ1 = some (.inl (some (.int (nI 1)), τ2)) := b4
  have er : Run false (d + 1) 147 12 [some (.ref 12), some (.int (nI o)), some (.int (nI i)), z3] [] σ = Run false (d + 1) 147 12 [some (.ref 12), some (.int (nI o)), some (.int (nI (i + 1))), (some (.int (nI 10011)))] [] τ3 := by
    rw [s147_12, hi4, cond_false, ca_tok hC, oeqF (show tkN B N q ≠ 43 by omega) tk_b (by decide), cond_false, oeqT ht, cond_true, cond_false, a3, aft_n, s147_60, b5, aft_v, s147_65, z10, cond_false, e4, aft_n, s147_78, nI_add]
  show CRs B N L (u + c1.length + 1) τ4 (Run false (d + 1) 147 12 [some (.ref 12), some (.int (nI o)), some (.int (nI i)), z3] [] σ) r2
  rw [er]
  exact g2
theorem c147_hb {k p : Nat} (h1 : CSim B N (fun d σ => Run false d 148 0 [some (.ref 12), some (.int (nI o)), none, none] [] σ) D q (rbad k p)) : CSim B N (fun d σ => Run false d 147 0 [some (.ref 12), some (.int (nI o)), none, none] [] σ) (D + 1) q (rbad k p) := by
  intro d L u σ hd hL hu hC
  obtain ⟨d, rfl⟩ := dS (show 1 ≤ d by omega)
  obtain ⟨τ2, b1, b2, b3, b4⟩ := h1 d L u σ (by omega) hL hu hC
  have b5 : Run false d 148 0 [some (.ref 12), some (.int (nI o)), none, none] [] σ = some (.inl (some (.int (nI 0)), τ2)) := b4
  refine ⟨τ2, b1, crs_bad b2 b3 ?_⟩
  show Run false (d + 1) 147 0 _ [] σ = _
  rw [s147_0, b5, aft_v, s147_5, z00, cond_true, is01_0, cond_true]
theorem c147_hk {q1 : Nat} {c1 : List CD} (h1 : CSim B N (fun d σ => Run false d 148 0 [some (.ref 12), some (.int (nI o)), none, none] [] σ) D q (rok q1 c1)) (hp : RP N q (rok q1 c1)) (h2 : CL147 B N o D q1 r2) : CSim B N (fun d σ => Run false d 147 0 [some (.ref 12), some (.int (nI o)), none, none] [] σ) (D + 1) q (cmb c1 r2) := by
  intro d L u σ hd hL hu hC
  obtain ⟨d, rfl⟩ := dS (show 1 ≤ d by omega)
  obtain ⟨p1, p2⟩ := hp
  obtain ⟨τ2, b1, b2, b3, b4⟩ := h1 d L u σ (by omega) hL hu hC
  obtain ⟨τ4, g1, g2⟩ := h2 0 none (Nat.zero_le _) d L (u + c1.length) τ2 (by omega) hL (by omega) b2
  have b5 : Run false d 148 0 [some (.ref 12), some (.int (nI o)), none, none] [] σ = some (.inl (some (.int (nI 1)), τ2)) := b4
  refine ⟨τ4, cf_t b1 g1 (by omega), crs_cmb b3 g1 ?_⟩
  have er : Run false (d + 1) 147 0 [some (.ref 12), some (.int (nI o)), none, none] [] σ = Run false (d + 1) 147 12 [some (.ref 12), some (.int (nI o)), some (.int (nI 0)), none] [] τ2 := by
    rw [s147_0, b5, aft_v, s147_5, z10, cond_false]
  show CRs B N L (u + c1.length) τ4 (Run false (d + 1) 147 0 [some (.ref 12), some (.int (nI o)), none, none] [] σ) r2
  rw [er]
  exact g2
theorem m187_nil (hN : N ≤ 400) (hB : ∀ j, j < N → B j ≤ 255) (hD : 2 ≤ D) (h0 : tkN B N q ≠ 43) (h1 : tkN B N q ≠ 45) : ML187 B N o D q (rok q []) := by
  intro z1 d rr s σ hd hs hM
  obtain ⟨τ1, a1, a2, a3, a4⟩ := m174 (d := d) (by omega) hN hB hM
  obtain ⟨τ2, b1, b2, b3, b4⟩ := m174 (d := d) (by omega) hN hB a2
  refine ⟨τ2, mrs_ok (mf_t (mf_at a1) (mf_at b1) (Nat.le_refl _)) b2 codeM_nil, ?_⟩
  show Run false (d + 1) 187 4 _ [] σ = _
  rw [s187_4, c172_t (by omega) hM.2.1, aft_v, s187_8, z10, cond_false, a4, aft_v, s187_15, ch_b (c := 43) rfl hB, Nbf h0, cond_false, b4, aft_v, s187_24, ch_b (c := 45) rfl hB, Nbf h1, cond_false]
/-- a fault ends the loop -/
theorem m187_st {d p : Nat} {z1 : Option Value} {σ : PS} (hd : 1 ≤ d) (h : FI σ 85 5 = nI p) (hp : p < 2 ^ 31) : Run false (d + 1) 187 4 [some (.ref 85), z1] [] σ = some (.inl (none, σ)) := by
  rw [s187_4, c172_f hd h hp, aft_v, s187_8, z00, cond_true]
theorem m187_b0 {k p : Nat} (hN : N ≤ 400) (hB : ∀ j, j < N → B j ≤ 255) (hD : 2 ≤ D) (ht : tkN B N q = 43) (h1 : MSim B N (fun d σ => Run false d 186 0 [some (.ref 85), none] [] σ) D o (nxN B N q) (rbad k p)) (hp : p ≤ N) : ML187 B N o D q (rbad k p) := by
  intro z1 d rr s σ hd hs hM
  obtain ⟨hq, -⟩ := (tk_sg (show strS.contains 43 = true from rfl)).mp ht
  have hch : chN B N q = 43 := (ch_sg (show strS.contains 43 = true from rfl)).mpr ht
  have hnx := nx_ok (B := B) hq
  obtain ⟨τ1, a1, a2, a3, a4⟩ := m174 (d := d) (by omega) hN hB hM
  obtain ⟨τ2, b1, b2, b3, b4⟩ := m174 (d := d) (by omega) hN hB a2
  have t5 : At1 σ (wFI τ2 85 4 (nI (q + 1))) (q + 1) := at_w (at_t a1 b1)
  have m5 : MAt B N rr s o (nxN B N q) (wFI τ2 85 4 (nI (q + 1))) := ma_at hM t5 (by omega) (by unfold nxN; rw [te_sg (show strS.contains 43 = true from rfl) ht])
  obtain ⟨τ3, c1, c2⟩ := h1 d rr s _ hd (by omega) m5
  have c3 : Run false d 186 0 [some (.ref 85), none] [] (wFI τ2 85 4 (nI (q + 1))) = some (.inl (none, τ3)) := c2
  refine ⟨τ3, bd_t (mf_at t5) c1, ?_⟩
  show Run false (d + 1) 187 4 _ [] σ = _
  rw [s187_4, c172_t (by omega) hM.2.1, aft_v, s187_8, z10, cond_false, a4, aft_v, s187_15, ch_b (c := 43) rfl hB, Nbt ht, cond_true, b4, aft_v, s187_33, b3, nI_add, hch, c3, aft_n, s187_48, oeqT rfl, cond_true, m181_b (by omega) c1.2.1 (by omega), aft_n, s187_66, m187_st (by omega) c1.2.1 (by omega)]
theorem m187_k0 {q1 : Nat} {c1 : List CD} (hN : N ≤ 400) (hB : ∀ j, j < N → B j ≤ 255) (hD : 2 ≤ D) (ht : tkN B N q = 43) (h1 : MSim B N (fun d σ => Run false d 186 0 [some (.ref 85), none] [] σ) D o (nxN B N q) (rok q1 c1)) (hp : RP N (nxN B N q) (rok q1 c1)) (h2 : ML187 B N o D q1 r2) : ML187 B N o D q (cmb (c1 ++ [(6, 0)]) r2) := by
  intro z1 d rr s σ hd hs hM
  obtain ⟨hq, -⟩ := (tk_sg (show strS.contains 43 = true from rfl)).mp ht
  have hch : chN B N q = 43 := (ch_sg (show strS.contains 43 = true from rfl)).mpr ht
  have hnx := nx_ok (B := B) hq
  obtain ⟨τ1, a1, a2, a3, a4⟩ := m174 (d := d) (by omega) hN hB hM
  obtain ⟨τ2, b1, b2, b3, b4⟩ := m174 (d := d) (by omega) hN hB a2
  have t5 : At1 σ (wFI τ2 85 4 (nI (q + 1))) (q + 1) := at_w (at_t a1 b1)
  have m5 : MAt B N rr s o (nxN B N q) (wFI τ2 85 4 (nI (q + 1))) := ma_at hM t5 (by omega) (by unfold nxN; rw [te_sg (show strS.contains 43 = true from rfl) ht])
  obtain ⟨p1, p2⟩ := hp
  obtain ⟨τ3, ⟨c1', c2', c3'⟩, c4⟩ := h1 d rr s _ hd (by omega) m5
  have c5 : Run false d 186 0 [some (.ref 85), none] [] (wFI τ2 85 4 (nI (q + 1))) = some (.inl (none, τ3)) := c4
  obtain ⟨τ4, e1, e2, e3, e4, e5⟩ := m181 (d := d) (a := 6) (b := 0) (by omega) (show s + c1.length < 400 by omega) c2'
  have eb : 400 * rr + (s + c1.length) = 400 * rr + s + c1.length := by omega
  rw [eb] at e1 e3 e4
  have el : s + (c1 ++ [((6 : Nat), (0 : Nat))]).length = s + c1.length + 1 := by rw [List.length_append]; rfl
  have cc : CodeM τ4 (400 * rr + s) (c1 ++ [(6, 0)]) := codeM_app (codeM_mf c3' e1 (Nat.le_refl _)) (codeM_one e3 e4)
  obtain ⟨τ5, g1, g2⟩ := h2 (some (.int (nI 43))) d rr (s + c1.length + 1) τ4 hd (by omega) e2
  refine ⟨τ5, mrs_cmb (mf_t (mf_t (mf_at t5) c1' (Nat.le_refl _)) e1 (by omega)) cc (by rw [el]; exact g1), ?_⟩
  show Run false (d + 1) 187 4 _ [] σ = _
  rw [s187_4, c172_t (by omega) hM.2.1, aft_v, s187_8, z10, cond_false, a4, aft_v, s187_15, ch_b (c := 43) rfl hB, Nbt ht, cond_true, b4, aft_v, s187_33, b3, nI_add, hch, c5, aft_n, s187_48, oeqT rfl, cond_true, e5, aft_n, s187_66]
  exact g2
theorem m187_b1 {k p : Nat} (hN : N ≤ 400) (hB : ∀ j, j < N → B j ≤ 255) (hD : 2 ≤ D) (ht : tkN B N q = 45) (h1 : MSim B N (fun d σ => Run false d 186 0 [some (.ref 85), none] [] σ) D o (nxN B N q) (rbad k p)) (hp : p ≤ N) : ML187 B N o D q (rbad k p) := by
  intro z1 d rr s σ hd hs hM
  obtain ⟨hq, -⟩ := (tk_sg (show strS.contains 45 = true from rfl)).mp ht
  have hch : chN B N q = 45 := (ch_sg (show strS.contains 45 = true from rfl)).mpr ht
  have hnx := nx_ok (B := B) hq
  obtain ⟨τ1, a1, a2, a3, a4⟩ := m174 (d := d) (by omega) hN hB hM
  obtain ⟨τ2, b1, b2, b3, b4⟩ := m174 (d := d) (by omega) hN hB a2
  obtain ⟨τ2b, w1, w2, w3, w4⟩ := m174 (d := d) (by omega) hN hB b2
  have t5 : At1 σ (wFI τ2b 85 4 (nI (q + 1))) (q + 1) := at_w (at_t (at_t a1 b1) w1)
  have m5 : MAt B N rr s o (nxN B N q) (wFI τ2b 85 4 (nI (q + 1))) := ma_at hM t5 (by omega) (by unfold nxN; rw [te_sg (show strS.contains 45 = true from rfl) ht])
  obtain ⟨τ3, c1, c2⟩ := h1 d rr s _ hd (by omega) m5
  have c3 : Run false d 186 0 [some (.ref 85), none] [] (wFI τ2b 85 4 (nI (q + 1))) = some (.inl (none, τ3)) := c2
  refine ⟨τ3, bd_t (mf_at t5) c1, ?_⟩
  show Run false (d + 1) 187 4 _ [] σ = _
  rw [s187_4, c172_t (by omega) hM.2.1, aft_v, s187_8, z10, cond_false, a4, aft_v, s187_15, ch_b (c := 43) rfl hB, Nbf (show tkN B N q ≠ 43 by omega), cond_false, b4, aft_v, s187_24, ch_b (c := 45) rfl hB, Nbt ht, cond_true, w4, aft_v, s187_33, w3, nI_add, hch, c3, aft_n, s187_48, oeqF (show 45 ≠ 43 by decide) (by decide) (by decide), cond_false, m181_b (by omega) c1.2.1 (by omega), aft_n, s187_66, m187_st (by omega) c1.2.1 (by omega)]
theorem m187_k1 {q1 : Nat} {c1 : List CD} (hN : N ≤ 400) (hB : ∀ j, j < N → B j ≤ 255) (hD : 2 ≤ D) (ht : tkN B N q = 45) (h1 : MSim B N (fun d σ => Run false d 186 0 [some (.ref 85), none] [] σ) D o (nxN B N q) (rok q1 c1)) (hp : RP N (nxN B N q) (rok q1 c1)) (h2 : ML187 B N o D q1 r2) : ML187 B N o D q (cmb (c1 ++ [(7, 0)]) r2) := by
  intro z1 d rr s σ hd hs hM
  obtain ⟨hq, -⟩ := (tk_sg (show strS.contains 45 = true from rfl)).mp ht
  have hch : chN B N q = 45 := (ch_sg (show strS.contains 45 = true from rfl)).mpr ht
  have hnx := nx_ok (B := B) hq
  obtain ⟨τ1, a1, a2, a3, a4⟩ := m174 (d := d) (by omega) hN hB hM
  obtain ⟨τ2, b1, b2, b3, b4⟩ := m174 (d := d) (by omega) hN hB a2
  obtain ⟨τ2b, w1, w2, w3, w4⟩ := m174 (d := d) (by omega) hN hB b2
  have t5 : At1 σ (wFI τ2b 85 4 (nI (q + 1))) (q + 1) := at_w (at_t (at_t a1 b1) w1)
  have m5 : MAt B N rr s o (nxN B N q) (wFI τ2b 85 4 (nI (q + 1))) := ma_at hM t5 (by omega) (by unfold nxN; rw [te_sg (show strS.contains 45 = true from rfl) ht])
  obtain ⟨p1, p2⟩ := hp
  obtain ⟨τ3, ⟨c1', c2', c3'⟩, c4⟩ := h1 d rr s _ hd (by omega) m5
  have c5 : Run false d 186 0 [some (.ref 85), none] [] (wFI τ2b 85 4 (nI (q + 1))) = some (.inl (none, τ3)) := c4
  obtain ⟨τ4, e1, e2, e3, e4, e5⟩ := m181 (d := d) (a := 7) (b := 0) (by omega) (show s + c1.length < 400 by omega) c2'
  have eb : 400 * rr + (s + c1.length) = 400 * rr + s + c1.length := by omega
  rw [eb] at e1 e3 e4
  have el : s + (c1 ++ [((7 : Nat), (0 : Nat))]).length = s + c1.length + 1 := by rw [List.length_append]; rfl
  have cc : CodeM τ4 (400 * rr + s) (c1 ++ [(7, 0)]) := codeM_app (codeM_mf c3' e1 (Nat.le_refl _)) (codeM_one e3 e4)
  obtain ⟨τ5, g1, g2⟩ := h2 (some (.int (nI 45))) d rr (s + c1.length + 1) τ4 hd (by omega) e2
  refine ⟨τ5, mrs_cmb (mf_t (mf_t (mf_at t5) c1' (Nat.le_refl _)) e1 (by omega)) cc (by rw [el]; exact g1), ?_⟩
  show Run false (d + 1) 187 4 _ [] σ = _
  rw [s187_4, c172_t (by omega) hM.2.1, aft_v, s187_8, z10, cond_false, a4, aft_v, s187_15, ch_b (c := 43) rfl hB, Nbf (show tkN B N q ≠ 43 by omega), cond_false, b4, aft_v, s187_24, ch_b (c := 45) rfl hB, Nbt ht, cond_true, w4, aft_v, s187_33, w3, nI_add, hch, c5, aft_n, s187_48, oeqF (show 45 ≠ 43 by decide) (by decide) (by decide), cond_false, e5, aft_n, s187_66]
  exact g2
theorem m187_hb {k p : Nat} (hD : 1 ≤ D) (h1 : MSim B N (fun d σ => Run false d 186 0 [some (.ref 85), none] [] σ) D o q (rbad k p)) (hp : p < 2 ^ 31) : MSim B N (fun d σ => Run false d 187 0 [some (.ref 85), none] [] σ) (D + 1) o q (rbad k p) := by
  intro d rr s σ hd hs hM
  obtain ⟨d, rfl⟩ := dS (show 1 ≤ d by omega)
  obtain ⟨τ3, c1, c2⟩ := h1 d rr s σ (by omega) hs hM
  have c3 : Run false d 186 0 [some (.ref 85), none] [] σ = some (.inl (none, τ3)) := c2
  refine ⟨τ3, c1, ?_⟩
  show Run false (d + 1) 187 0 _ [] σ = _
  rw [s187_0, c3, aft_n, m187_st (by omega) c1.2.1 hp]
theorem m187_hk {q1 : Nat} {c1 : List CD} (h1 : MSim B N (fun d σ => Run false d 186 0 [some (.ref 85), none] [] σ) D o q (rok q1 c1)) (hp : RP N q (rok q1 c1)) (h2 : ML187 B N o D q1 r2) : MSim B N (fun d σ => Run false d 187 0 [some (.ref 85), none] [] σ) (D + 1) o q (cmb c1 r2) := by
  intro d rr s σ hd hs hM
  obtain ⟨d, rfl⟩ := dS (show 1 ≤ d by omega)
  obtain ⟨p1, p2⟩ := hp
  obtain ⟨τ3, ⟨c1', c2', c3'⟩, c4⟩ := h1 d rr s σ (by omega) hs hM
  have c5 : Run false d 186 0 [some (.ref 85), none] [] σ = some (.inl (none, τ3)) := c4
  obtain ⟨τ5, g1, g2⟩ := h2 none d rr (s + c1.length) τ3 (by omega) (by omega) c2'
  refine ⟨τ5, mrs_cmb c1' c3' g1, ?_⟩
  show Run false (d + 1) 187 0 _ [] σ = _
  rw [s187_0, c5, aft_n]
  exact g2
/-- the loop of all of them, in the class -/
def CL152 (B : Nat → Nat) (N o D q : Nat) (r : RS) : Prop := ∀ (i : Nat), i ≤ q → CSim B N (fun d σ => Run false (d + 1) 152 12 [some (.ref 12), some (.int (nI o)), some (.int (nI i))] [] σ) D q r
def ML189 (B : Nat → Nat) (N o D q : Nat) (r : RS) : Prop := MSim B N (fun d σ => Run false (d + 1) 189 4 [some (.ref 85)] [] σ) D o q r
theorem c152_nil (hN : N ≤ 400) (h0 : tkN B N q ≠ 222) : CL152 B N o D q (rok q []) := by
  intro i hi d L u σ hd hL hu hC
  have hq := ca_le hC
  refine ⟨σ, cf_r, crs_ok hC codeC_nil ?_⟩
  show Run false (d + 1) 152 12 _ [] σ = _
  rw [s152_12, is01_1, cond_true]
  cases obl (nI 400 ≤ nI i)
  · rw [cond_false, ca_tok hC, oeqF h0 tk_b (by decide), cond_false]
  · rfl
theorem c152_b0 {k p : Nat} (hN : N ≤ 400) (hD : 1 ≤ D) (ht : tkN B N q = 222) (h1 : CSim B N (fun d σ => Run false d 153 0 [some (.ref 12), some (.int (nI o)), none] [] σ) D (nxN B N q) (rbad k p)) : CL152 B N o D q (rbad k p) := by
  intro i hi d L u σ hd hL hu hC
  have hq : q < N := Nat.lt_of_not_le (fun v => by rw [tk_end.mpr v] at ht; omega)
  have hi4 : obl (nI 400 ≤ nI i) = false := oleF (by omega) (by omega)
  obtain ⟨τ1, a1, a2, a3⟩ := c141 (d := d) (by omega) hC hq
  have hnx := nx_ok (B := B) hq
  obtain ⟨τ2, b1, b2, b3, b4⟩ := h1 d L u τ1 hd hL (by omega) a2
  refine ⟨τ2, cf_t a1 b1 (Nat.le_refl _), crs_bad b2 b3 ?_⟩
  show Run false (d + 1) 152 12 _ [] σ = _
  have b5 : Run false d 153 0 [some (.ref 12), some (.int (nI o)), none] [] τ1 = some (.inl (some (.int (nI 0)), τ2)) := b4
  rw [s152_12, hi4, cond_false, ca_tok hC, oeqT ht, cond_true, a3, aft_n, s152_33, b5, aft_v, s152_38, z00, cond_true, is01_0, cond_true]
theorem c152_k0 {q1 : Nat} {c1 : List CD} (hN : N ≤ 400) (hD : 1 ≤ D) (ht : tkN B N q = 222) (h1 : CSim B N (fun d σ => Run false d 153 0 [some (.ref 12), some (.int (nI o)), none] [] σ) D (nxN B N q) (rok q1 c1)) (hp : RP N (nxN B N q) (rok q1 c1)) (h2 : CL152 B N o D q1 r2) : CL152 B N o D q (cmb (c1 ++ [(16, 0)]) r2) := by
  intro i hi d L u σ hd hL hu hC
  have hq : q < N := Nat.lt_of_not_le (fun v => by rw [tk_end.mpr v] at ht; omega)
  have hi4 : obl (nI 400 ≤ nI i) = false := oleF (by omega) (by omega)
  obtain ⟨τ1, a1, a2, a3⟩ := c141 (d := d) (by omega) hC hq
  have hnx := nx_ok (B := B) hq
  obtain ⟨p1, p2⟩ := hp
  obtain ⟨τ2, b1, b2, b3, b4⟩ := h1 d L u τ1 hd hL (by omega) a2
  obtain ⟨τ3, e1, e2, e3, e4⟩ := c96 (d := d) (v := nI 10019) (by omega) hL (show u + c1.length < 4400 by omega) b2
  obtain ⟨τ4, g1, g2⟩ := h2 (i + 1) (by omega) d L (u + c1.length + 1) τ3 hd hL (by omega) e2
  have cc : CodeC τ3 u (c1 ++ [(16, 0)]) := codeC_app (codeC_cf b3 e1 (Nat.le_refl _)) (codeC_one e3)
  have el : u + (c1 ++ [((16 : Nat), (0 : Nat))]).length = u + c1.length + 1 := by rw [List.length_append]; rfl
  refine ⟨τ4, cf_t (cf_t (cf_t a1 b1 (Nat.le_refl _)) e1 (by omega)) g1 (by omega), crs_cmb cc (by rw [el]; exact g1) ?_⟩
  rw [el]
  have b5 : Run false d 153 0 [some (.ref 12), some (.int (nI o)), none] [] τ1 = some (.inl (some (.int (nI 1)), τ2)) := b4
  have er : Run false (d + 1) 152 12 [some (.ref 12), some (.int (nI o)), some (.int (nI i))] [] σ = Run false (d + 1) 152 12 [some (.ref 12), some (.int (nI o)), some (.int (nI (i + 1)))] [] τ3 := by
    rw [s152_12, hi4, cond_false, ca_tok hC, oeqT ht, cond_true, a3, aft_n, s152_33, b5, aft_v, s152_38, z10, cond_false, e4, aft_n, s152_53, nI_add]
  show CRs B N L (u + c1.length + 1) τ4 (Run false (d + 1) 152 12 [some (.ref 12), some (.int (nI o)), some (.int (nI i))] [] σ) r2
  rw [er]
  exact g2
theorem c152_hb {k p : Nat} (h1 : CSim B N (fun d σ => Run false d 153 0 [some (.ref 12), some (.int (nI o)), none] [] σ) D q (rbad k p)) : CSim B N (fun d σ => Run false d 152 0 [some (.ref 12), some (.int (nI o)), none] [] σ) (D + 1) q (rbad k p) := by
  intro d L u σ hd hL hu hC
  obtain ⟨d, rfl⟩ := dS (show 1 ≤ d by omega)
  obtain ⟨τ2, b1, b2, b3, b4⟩ := h1 d L u σ (by omega) hL hu hC
  have b5 : Run false d 153 0 [some (.ref 12), some (.int (nI o)), none] [] σ = some (.inl (some (.int (nI 0)), τ2)) := b4
  refine ⟨τ2, b1, crs_bad b2 b3 ?_⟩
  show Run false (d + 1) 152 0 _ [] σ = _
  rw [s152_0, b5, aft_v, s152_5, z00, cond_true, is01_0, cond_true]
theorem c152_hk {q1 : Nat} {c1 : List CD} (h1 : CSim B N (fun d σ => Run false d 153 0 [some (.ref 12), some (.int (nI o)), none] [] σ) D q (rok q1 c1)) (hp : RP N q (rok q1 c1)) (h2 : CL152 B N o D q1 r2) : CSim B N (fun d σ => Run false d 152 0 [some (.ref 12), some (.int (nI o)), none] [] σ) (D + 1) q (cmb c1 r2) := by
  intro d L u σ hd hL hu hC
  obtain ⟨d, rfl⟩ := dS (show 1 ≤ d by omega)
  obtain ⟨p1, p2⟩ := hp
  obtain ⟨τ2, b1, b2, b3, b4⟩ := h1 d L u σ (by omega) hL hu hC
  obtain ⟨τ4, g1, g2⟩ := h2 0 (Nat.zero_le _) d L (u + c1.length) τ2 (by omega) hL (by omega) b2
  have b5 : Run false d 153 0 [some (.ref 12), some (.int (nI o)), none] [] σ = some (.inl (some (.int (nI 1)), τ2)) := b4
  refine ⟨τ4, cf_t b1 g1 (by omega), crs_cmb b3 g1 ?_⟩
  have er : Run false (d + 1) 152 0 [some (.ref 12), some (.int (nI o)), none] [] σ = Run false (d + 1) 152 12 [some (.ref 12), some (.int (nI o)), some (.int (nI 0))] [] τ2 := by
    rw [s152_0, b5, aft_v, s152_5, z10, cond_false]
  show CRs B N L (u + c1.length) τ4 (Run false (d + 1) 152 0 [some (.ref 12), some (.int (nI o)), none] [] σ) r2
  rw [er]
  exact g2
theorem m189_nil (hN : N ≤ 400) (hB : ∀ j, j < N → B j ≤ 255) (hD : 2 ≤ D) (h0 : tkN B N q ≠ 222) : ML189 B N o D q (rok q []) := by
  intro d rr s σ hd hs hM
  obtain ⟨τ1, a1, a2, a3, a4⟩ := m177 (d := d) (by omega) hN hB hM
  refine ⟨τ1, mrs_ok (mf_at a1) a2 codeM_nil, ?_⟩
  show Run false (d + 1) 189 4 _ [] σ = _
  rw [s189_4, c172_t (by omega) hM.2.1, aft_v, s189_8, z10, cond_false, a4, aft_v, s189_15, lg_w (k := 22) (by decide) (W := 1476) rfl, Nbf h0, cond_false]
theorem m189_st {d p : Nat} {σ : PS} (hd : 1 ≤ d) (h : FI σ 85 5 = nI p) (hp : p < 2 ^ 31) : Run false (d + 1) 189 4 [some (.ref 85)] [] σ = some (.inl (none, σ)) := by
  rw [s189_4, c172_f hd h hp, aft_v, s189_8, z00, cond_true]
theorem m189_b0 {k p : Nat} (hN : N ≤ 400) (hB : ∀ j, j < N → B j ≤ 255) (hD : 2 ≤ D) (ht : tkN B N q = 222) (h1 : MSim B N (fun d σ => Run false d 190 0 [some (.ref 85), none] [] σ) D o (nxN B N q) (rbad k p)) (hp : p ≤ N) : ML189 B N o D q (rbad k p) := by
  intro d rr s σ hd hs hM
  have hq : q < N := Nat.lt_of_not_le (fun v => by rw [tk_end.mpr v] at ht; omega)
  have hnx := nx_ok (B := B) hq
  obtain ⟨τ1, a1, a2, a3, a4⟩ := m177 (d := d) (by omega) hN hB hM
  obtain ⟨τ2, b1, b2, b3⟩ := m178 (d := d) (k := 22) (by omega) hN hB a2 a3 (by decide) ht
  obtain ⟨τ3, c1, c2⟩ := h1 d rr s _ hd (by omega) b2
  have c3 : Run false d 190 0 [some (.ref 85), none] [] τ2 = some (.inl (none, τ3)) := c2
  refine ⟨τ3, bd_t (mf_t (mf_at a1) b1 (Nat.le_refl _)) c1, ?_⟩
  show Run false (d + 1) 189 4 _ [] σ = _
  rw [s189_4, c172_t (by omega) hM.2.1, aft_v, s189_8, z10, cond_false, a4, aft_v, s189_15, lg_w (k := 22) (by decide) (W := 1476) rfl, Nbt ht, cond_true, b3, aft_n, s189_26, c3, aft_n, s189_30, m181_b (by omega) c1.2.1 (by omega), aft_n, s189_37, m189_st (by omega) c1.2.1 (by omega)]
theorem m189_k0 {q1 : Nat} {c1 : List CD} (hN : N ≤ 400) (hB : ∀ j, j < N → B j ≤ 255) (hD : 2 ≤ D) (ht : tkN B N q = 222) (h1 : MSim B N (fun d σ => Run false d 190 0 [some (.ref 85), none] [] σ) D o (nxN B N q) (rok q1 c1)) (hp : RP N (nxN B N q) (rok q1 c1)) (h2 : ML189 B N o D q1 r2) : ML189 B N o D q (cmb (c1 ++ [(16, 0)]) r2) := by
  intro d rr s σ hd hs hM
  have hq : q < N := Nat.lt_of_not_le (fun v => by rw [tk_end.mpr v] at ht; omega)
  have hnx := nx_ok (B := B) hq
  obtain ⟨τ1, a1, a2, a3, a4⟩ := m177 (d := d) (by omega) hN hB hM
  obtain ⟨τ2, b1, b2, b3⟩ := m178 (d := d) (k := 22) (by omega) hN hB a2 a3 (by decide) ht
  obtain ⟨p1, p2⟩ := hp
  obtain ⟨τ3, ⟨c1', c2', c3'⟩, c4⟩ := h1 d rr s _ hd (by omega) b2
  have c5 : Run false d 190 0 [some (.ref 85), none] [] τ2 = some (.inl (none, τ3)) := c4
  obtain ⟨τ4, e1, e2, e3, e4, e5⟩ := m181 (d := d) (a := 16) (b := 0) (by omega) (show s + c1.length < 400 by omega) c2'
  have eb : 400 * rr + (s + c1.length) = 400 * rr + s + c1.length := by omega
  rw [eb] at e1 e3 e4
  have el : s + (c1 ++ [((16 : Nat), (0 : Nat))]).length = s + c1.length + 1 := by rw [List.length_append]; rfl
  have cc : CodeM τ4 (400 * rr + s) (c1 ++ [(16, 0)]) := codeM_app (codeM_mf c3' e1 (Nat.le_refl _)) (codeM_one e3 e4)
  obtain ⟨τ5, g1, g2⟩ := h2 d rr (s + c1.length + 1) τ4 hd (by omega) e2
  refine ⟨τ5, mrs_cmb (mf_t (mf_t (mf_t (mf_at a1) b1 (Nat.le_refl _)) c1' (Nat.le_refl _)) e1 (by omega)) cc (by rw [el]; exact g1), ?_⟩
  show Run false (d + 1) 189 4 _ [] σ = _
  rw [s189_4, c172_t (by omega) hM.2.1, aft_v, s189_8, z10, cond_false, a4, aft_v, s189_15, lg_w (k := 22) (by decide) (W := 1476) rfl, Nbt ht, cond_true, b3, aft_n, s189_26, c5, aft_n, s189_30, e5, aft_n, s189_37]
  exact g2
theorem m189_hb {k p : Nat} (hD : 1 ≤ D) (h1 : MSim B N (fun d σ => Run false d 190 0 [some (.ref 85), none] [] σ) D o q (rbad k p)) (hp : p < 2 ^ 31) : MSim B N (fun d σ => Run false d 189 0 [some (.ref 85)] [] σ) (D + 1) o q (rbad k p) := by
  intro d rr s σ hd hs hM
  obtain ⟨d, rfl⟩ := dS (show 1 ≤ d by omega)
  obtain ⟨τ3, c1, c2⟩ := h1 d rr s σ (by omega) hs hM
  have c3 : Run false d 190 0 [some (.ref 85), none] [] σ = some (.inl (none, τ3)) := c2
  refine ⟨τ3, c1, ?_⟩
  show Run false (d + 1) 189 0 _ [] σ = _
  rw [s189_0, c3, aft_n, m189_st (by omega) c1.2.1 hp]
theorem m189_hk {q1 : Nat} {c1 : List CD} (h1 : MSim B N (fun d σ => Run false d 190 0 [some (.ref 85), none] [] σ) D o q (rok q1 c1)) (hp : RP N q (rok q1 c1)) (h2 : ML189 B N o D q1 r2) : MSim B N (fun d σ => Run false d 189 0 [some (.ref 85)] [] σ) (D + 1) o q (cmb c1 r2) := by
  intro d rr s σ hd hs hM
  obtain ⟨d, rfl⟩ := dS (show 1 ≤ d by omega)
  obtain ⟨p1, p2⟩ := hp
  obtain ⟨τ3, ⟨c1', c2', c3'⟩, c4⟩ := h1 d rr s σ (by omega) hs hM
  have c5 : Run false d 190 0 [some (.ref 85), none] [] σ = some (.inl (none, τ3)) := c4
  obtain ⟨τ5, g1, g2⟩ := h2 d rr (s + c1.length) τ3 (by omega) (by omega) c2'
  refine ⟨τ5, mrs_cmb c1' c3' g1, ?_⟩
  show Run false (d + 1) 189 0 _ [] σ = _
  rw [s189_0, c5, aft_n]
  exact g2
/-- the loop of any of them, in the class -/
def CL151 (B : Nat → Nat) (N o D q : Nat) (r : RS) : Prop := ∀ (i : Nat), i ≤ q → CSim B N (fun d σ => Run false (d + 1) 151 12 [some (.ref 12), some (.int (nI o)), some (.int (nI i))] [] σ) D q r
def ML188 (B : Nat → Nat) (N o D q : Nat) (r : RS) : Prop := MSim B N (fun d σ => Run false (d + 1) 188 4 [some (.ref 85)] [] σ) D o q r
theorem c151_nil (hN : N ≤ 400) (h0 : tkN B N q ≠ 221) : CL151 B N o D q (rok q []) := by
  intro i hi d L u σ hd hL hu hC
  have hq := ca_le hC
  refine ⟨σ, cf_r, crs_ok hC codeC_nil ?_⟩
  show Run false (d + 1) 151 12 _ [] σ = _
  rw [s151_12, is01_1, cond_true]
  cases obl (nI 400 ≤ nI i)
  · rw [cond_false, ca_tok hC, oeqF h0 tk_b (by decide), cond_false]
  · rfl
theorem c151_b0 {k p : Nat} (hN : N ≤ 400) (hD : 1 ≤ D) (ht : tkN B N q = 221) (h1 : CSim B N (fun d σ => Run false d 152 0 [some (.ref 12), some (.int (nI o)), none] [] σ) D (nxN B N q) (rbad k p)) : CL151 B N o D q (rbad k p) := by
  intro i hi d L u σ hd hL hu hC
  have hq : q < N := Nat.lt_of_not_le (fun v => by rw [tk_end.mpr v] at ht; omega)
  have hi4 : obl (nI 400 ≤ nI i) = false := oleF (by omega) (by omega)
  obtain ⟨τ1, a1, a2, a3⟩ := c141 (d := d) (by omega) hC hq
  have hnx := nx_ok (B := B) hq
  obtain ⟨τ2, b1, b2, b3, b4⟩ := h1 d L u τ1 hd hL (by omega) a2
  refine ⟨τ2, cf_t a1 b1 (Nat.le_refl _), crs_bad b2 b3 ?_⟩
  show Run false (d + 1) 151 12 _ [] σ = _
  have b5 : Run false d 152 0 [some (.ref 12), some (.int (nI o)), none] [] τ1 = some (.inl (some (.int (nI 0)), τ2)) := b4
  rw [s151_12, hi4, cond_false, ca_tok hC, oeqT ht, cond_true, a3, aft_n, s151_33, b5, aft_v, s151_38, z00, cond_true, is01_0, cond_true]
theorem c151_k0 {q1 : Nat} {c1 : List CD} (hN : N ≤ 400) (hD : 1 ≤ D) (ht : tkN B N q = 221) (h1 : CSim B N (fun d σ => Run false d 152 0 [some (.ref 12), some (.int (nI o)), none] [] σ) D (nxN B N q) (rok q1 c1)) (hp : RP N (nxN B N q) (rok q1 c1)) (h2 : CL151 B N o D q1 r2) : CL151 B N o D q (cmb (c1 ++ [(15, 0)]) r2) := by
  intro i hi d L u σ hd hL hu hC
  have hq : q < N := Nat.lt_of_not_le (fun v => by rw [tk_end.mpr v] at ht; omega)
  have hi4 : obl (nI 400 ≤ nI i) = false := oleF (by omega) (by omega)
  obtain ⟨τ1, a1, a2, a3⟩ := c141 (d := d) (by omega) hC hq
  have hnx := nx_ok (B := B) hq
  obtain ⟨p1, p2⟩ := hp
  obtain ⟨τ2, b1, b2, b3, b4⟩ := h1 d L u τ1 hd hL (by omega) a2
  obtain ⟨τ3, e1, e2, e3, e4⟩ := c96 (d := d) (v := nI 10020) (by omega) hL (show u + c1.length < 4400 by omega) b2
  obtain ⟨τ4, g1, g2⟩ := h2 (i + 1) (by omega) d L (u + c1.length + 1) τ3 hd hL (by omega) e2
  have cc : CodeC τ3 u (c1 ++ [(15, 0)]) := codeC_app (codeC_cf b3 e1 (Nat.le_refl _)) (codeC_one e3)
  have el : u + (c1 ++ [((15 : Nat), (0 : Nat))]).length = u + c1.length + 1 := by rw [List.length_append]; rfl
  refine ⟨τ4, cf_t (cf_t (cf_t a1 b1 (Nat.le_refl _)) e1 (by omega)) g1 (by omega), crs_cmb cc (by rw [el]; exact g1) ?_⟩
  rw [el]
  have b5 : Run false d 152 0 [some (.ref 12), some (.int (nI o)), none] [] τ1 = some (.inl (some (.int (nI 1)), τ2)) := b4
  have er : Run false (d + 1) 151 12 [some (.ref 12), some (.int (nI o)), some (.int (nI i))] [] σ = Run false (d + 1) 151 12 [some (.ref 12), some (.int (nI o)), some (.int (nI (i + 1)))] [] τ3 := by
    rw [s151_12, hi4, cond_false, ca_tok hC, oeqT ht, cond_true, a3, aft_n, s151_33, b5, aft_v, s151_38, z10, cond_false, e4, aft_n, s151_53, nI_add]
  show CRs B N L (u + c1.length + 1) τ4 (Run false (d + 1) 151 12 [some (.ref 12), some (.int (nI o)), some (.int (nI i))] [] σ) r2
  rw [er]
  exact g2
theorem c151_hb {k p : Nat} (h1 : CSim B N (fun d σ => Run false d 152 0 [some (.ref 12), some (.int (nI o)), none] [] σ) D q (rbad k p)) : CSim B N (fun d σ => Run false d 151 0 [some (.ref 12), some (.int (nI o)), none] [] σ) (D + 1) q (rbad k p) := by
  intro d L u σ hd hL hu hC
  obtain ⟨d, rfl⟩ := dS (show 1 ≤ d by omega)
  obtain ⟨τ2, b1, b2, b3, b4⟩ := h1 d L u σ (by omega) hL hu hC
  have b5 : Run false d 152 0 [some (.ref 12), some (.int (nI o)), none] [] σ = some (.inl (some (.int (nI 0)), τ2)) := b4
  refine ⟨τ2, b1, crs_bad b2 b3 ?_⟩
  show Run false (d + 1) 151 0 _ [] σ = _
  rw [s151_0, b5, aft_v, s151_5, z00, cond_true, is01_0, cond_true]
theorem c151_hk {q1 : Nat} {c1 : List CD} (h1 : CSim B N (fun d σ => Run false d 152 0 [some (.ref 12), some (.int (nI o)), none] [] σ) D q (rok q1 c1)) (hp : RP N q (rok q1 c1)) (h2 : CL151 B N o D q1 r2) : CSim B N (fun d σ => Run false d 151 0 [some (.ref 12), some (.int (nI o)), none] [] σ) (D + 1) q (cmb c1 r2) := by
  intro d L u σ hd hL hu hC
  obtain ⟨d, rfl⟩ := dS (show 1 ≤ d by omega)
  obtain ⟨p1, p2⟩ := hp
  obtain ⟨τ2, b1, b2, b3, b4⟩ := h1 d L u σ (by omega) hL hu hC
  obtain ⟨τ4, g1, g2⟩ := h2 0 (Nat.zero_le _) d L (u + c1.length) τ2 (by omega) hL (by omega) b2
  have b5 : Run false d 152 0 [some (.ref 12), some (.int (nI o)), none] [] σ = some (.inl (some (.int (nI 1)), τ2)) := b4
  refine ⟨τ4, cf_t b1 g1 (by omega), crs_cmb b3 g1 ?_⟩
  have er : Run false (d + 1) 151 0 [some (.ref 12), some (.int (nI o)), none] [] σ = Run false (d + 1) 151 12 [some (.ref 12), some (.int (nI o)), some (.int (nI 0))] [] τ2 := by
    rw [s151_0, b5, aft_v, s151_5, z10, cond_false]
  show CRs B N L (u + c1.length) τ4 (Run false (d + 1) 151 0 [some (.ref 12), some (.int (nI o)), none] [] σ) r2
  rw [er]
  exact g2
theorem m188_nil (hN : N ≤ 400) (hB : ∀ j, j < N → B j ≤ 255) (hD : 2 ≤ D) (h0 : tkN B N q ≠ 221) : ML188 B N o D q (rok q []) := by
  intro d rr s σ hd hs hM
  obtain ⟨τ1, a1, a2, a3, a4⟩ := m177 (d := d) (by omega) hN hB hM
  refine ⟨τ1, mrs_ok (mf_at a1) a2 codeM_nil, ?_⟩
  show Run false (d + 1) 188 4 _ [] σ = _
  rw [s188_4, c172_t (by omega) hM.2.1, aft_v, s188_8, z10, cond_false, a4, aft_v, s188_15, lg_w (k := 21) (by decide) (W := 498) rfl, Nbf h0, cond_false]
theorem m188_st {d p : Nat} {σ : PS} (hd : 1 ≤ d) (h : FI σ 85 5 = nI p) (hp : p < 2 ^ 31) : Run false (d + 1) 188 4 [some (.ref 85)] [] σ = some (.inl (none, σ)) := by
  rw [s188_4, c172_f hd h hp, aft_v, s188_8, z00, cond_true]
theorem m188_b0 {k p : Nat} (hN : N ≤ 400) (hB : ∀ j, j < N → B j ≤ 255) (hD : 2 ≤ D) (ht : tkN B N q = 221) (h1 : MSim B N (fun d σ => Run false d 189 0 [some (.ref 85)] [] σ) D o (nxN B N q) (rbad k p)) (hp : p ≤ N) : ML188 B N o D q (rbad k p) := by
  intro d rr s σ hd hs hM
  have hq : q < N := Nat.lt_of_not_le (fun v => by rw [tk_end.mpr v] at ht; omega)
  have hnx := nx_ok (B := B) hq
  obtain ⟨τ1, a1, a2, a3, a4⟩ := m177 (d := d) (by omega) hN hB hM
  obtain ⟨τ2, b1, b2, b3⟩ := m178 (d := d) (k := 21) (by omega) hN hB a2 a3 (by decide) ht
  obtain ⟨τ3, c1, c2⟩ := h1 d rr s _ hd (by omega) b2
  have c3 : Run false d 189 0 [some (.ref 85)] [] τ2 = some (.inl (none, τ3)) := c2
  refine ⟨τ3, bd_t (mf_t (mf_at a1) b1 (Nat.le_refl _)) c1, ?_⟩
  show Run false (d + 1) 188 4 _ [] σ = _
  rw [s188_4, c172_t (by omega) hM.2.1, aft_v, s188_8, z10, cond_false, a4, aft_v, s188_15, lg_w (k := 21) (by decide) (W := 498) rfl, Nbt ht, cond_true, b3, aft_n, s188_26, c3, aft_n, s188_30, m181_b (by omega) c1.2.1 (by omega), aft_n, s188_37, m188_st (by omega) c1.2.1 (by omega)]
theorem m188_k0 {q1 : Nat} {c1 : List CD} (hN : N ≤ 400) (hB : ∀ j, j < N → B j ≤ 255) (hD : 2 ≤ D) (ht : tkN B N q = 221) (h1 : MSim B N (fun d σ => Run false d 189 0 [some (.ref 85)] [] σ) D o (nxN B N q) (rok q1 c1)) (hp : RP N (nxN B N q) (rok q1 c1)) (h2 : ML188 B N o D q1 r2) : ML188 B N o D q (cmb (c1 ++ [(15, 0)]) r2) := by
  intro d rr s σ hd hs hM
  have hq : q < N := Nat.lt_of_not_le (fun v => by rw [tk_end.mpr v] at ht; omega)
  have hnx := nx_ok (B := B) hq
  obtain ⟨τ1, a1, a2, a3, a4⟩ := m177 (d := d) (by omega) hN hB hM
  obtain ⟨τ2, b1, b2, b3⟩ := m178 (d := d) (k := 21) (by omega) hN hB a2 a3 (by decide) ht
  obtain ⟨p1, p2⟩ := hp
  obtain ⟨τ3, ⟨c1', c2', c3'⟩, c4⟩ := h1 d rr s _ hd (by omega) b2
  have c5 : Run false d 189 0 [some (.ref 85)] [] τ2 = some (.inl (none, τ3)) := c4
  obtain ⟨τ4, e1, e2, e3, e4, e5⟩ := m181 (d := d) (a := 15) (b := 0) (by omega) (show s + c1.length < 400 by omega) c2'
  have eb : 400 * rr + (s + c1.length) = 400 * rr + s + c1.length := by omega
  rw [eb] at e1 e3 e4
  have el : s + (c1 ++ [((15 : Nat), (0 : Nat))]).length = s + c1.length + 1 := by rw [List.length_append]; rfl
  have cc : CodeM τ4 (400 * rr + s) (c1 ++ [(15, 0)]) := codeM_app (codeM_mf c3' e1 (Nat.le_refl _)) (codeM_one e3 e4)
  obtain ⟨τ5, g1, g2⟩ := h2 d rr (s + c1.length + 1) τ4 hd (by omega) e2
  refine ⟨τ5, mrs_cmb (mf_t (mf_t (mf_t (mf_at a1) b1 (Nat.le_refl _)) c1' (Nat.le_refl _)) e1 (by omega)) cc (by rw [el]; exact g1), ?_⟩
  show Run false (d + 1) 188 4 _ [] σ = _
  rw [s188_4, c172_t (by omega) hM.2.1, aft_v, s188_8, z10, cond_false, a4, aft_v, s188_15, lg_w (k := 21) (by decide) (W := 498) rfl, Nbt ht, cond_true, b3, aft_n, s188_26, c5, aft_n, s188_30, e5, aft_n, s188_37]
  exact g2
theorem m188_hb {k p : Nat} (hD : 1 ≤ D) (h1 : MSim B N (fun d σ => Run false d 189 0 [some (.ref 85)] [] σ) D o q (rbad k p)) (hp : p < 2 ^ 31) : MSim B N (fun d σ => Run false d 188 0 [some (.ref 85)] [] σ) (D + 1) o q (rbad k p) := by
  intro d rr s σ hd hs hM
  obtain ⟨d, rfl⟩ := dS (show 1 ≤ d by omega)
  obtain ⟨τ3, c1, c2⟩ := h1 d rr s σ (by omega) hs hM
  have c3 : Run false d 189 0 [some (.ref 85)] [] σ = some (.inl (none, τ3)) := c2
  refine ⟨τ3, c1, ?_⟩
  show Run false (d + 1) 188 0 _ [] σ = _
  rw [s188_0, c3, aft_n, m188_st (by omega) c1.2.1 hp]
theorem m188_hk {q1 : Nat} {c1 : List CD} (h1 : MSim B N (fun d σ => Run false d 189 0 [some (.ref 85)] [] σ) D o q (rok q1 c1)) (hp : RP N q (rok q1 c1)) (h2 : ML188 B N o D q1 r2) : MSim B N (fun d σ => Run false d 188 0 [some (.ref 85)] [] σ) (D + 1) o q (cmb c1 r2) := by
  intro d rr s σ hd hs hM
  obtain ⟨d, rfl⟩ := dS (show 1 ≤ d by omega)
  obtain ⟨p1, p2⟩ := hp
  obtain ⟨τ3, ⟨c1', c2', c3'⟩, c4⟩ := h1 d rr s σ (by omega) hs hM
  have c5 : Run false d 189 0 [some (.ref 85)] [] σ = some (.inl (none, τ3)) := c4
  obtain ⟨τ5, g1, g2⟩ := h2 d rr (s + c1.length) τ3 (by omega) (by omega) c2'
  refine ⟨τ5, mrs_cmb c1' c3' g1, ?_⟩
  show Run false (d + 1) 188 0 _ [] σ = _
  rw [s188_0, c5, aft_n]
  exact g2
end SB
