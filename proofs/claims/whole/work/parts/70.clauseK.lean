/-! THE PURE PROOFS: clauses: what they come to; the class -/
abbrev RC : Type := (Nat × Nat × List CD) ⊕ (Nat × Nat)
def loK (k : Nat) : Nat := if k = 6 then 1 else 0
def hiK (k : Nat) : Nat := if k = 6 then 50 else if k = 1 ∨ k = 2 then 100 else 9999
def rs0 (rs : RS) : RC := match rs with | Sum.inr x => Sum.inr x | Sum.inl (q3, cs) => Sum.inl (q3, 0, cs)
/-- behind the kind and the sort -/
def bdR (B : Nat → Nat) (N k q : Nat) (rs : RS) : RC :=
  if k = 0 then (if tkN B N q = 61 then rs0 rs else Sum.inr (1, q))
  else if k = 4 then (if tkN B N q = 220 then rs0 rs else Sum.inl (q, 0, []))
  else if k = 7 then (if tkN B N q = 218 ∨ tkN B N q = 219 then Sum.inl (nxN B N q, tkN B N q - 218, []) else Sum.inr (1, q))
  else (if tkN B N q = 300 ∧ loK k ≤ nvN B N q ∧ nvN B N q ≤ hiK k then Sum.inl (nxN B N q, nvN B N q, []) else Sum.inr (if tkN B N q = 300 then 2 else 1, q))
/-- with the semicolon -/
def clR (B : Nat → Nat) (N : Nat) (rc : RC) : RC := match rc with | Sum.inr x => Sum.inr x | Sum.inl (q3, num, cs) => if tkN B N q3 = 59 then Sum.inl (nxN B N q3, num, cs) else Sum.inr (1, q3)
def CG (L u : Nat) (σ τ : PS) : Prop := (∀ o k, ¬ (o = 1 ∧ k = 1) → ¬ (o = 12 ∧ 1 ≤ k ∧ k ≤ 6 ∧ k ≠ 3) → FI τ o k = FI σ o k) ∧ FL τ = FL σ ∧ AL τ = AL σ ∧ XX τ = XX σ ∧ (∀ o, o ≠ 6 → o ≠ 8 → o ≠ 9 → AI τ o = AI σ o) ∧ (∀ o j, o = 6 ∨ o = 8 → j ≠ L → AI τ o j = AI σ o j) ∧ ∀ j, j < u → AI τ 9 j = AI σ 9 j
/-- a clause with its first step -/
def clCs (σ : PS) (r c : Nat) (x : CLS) (st : Nat) : Prop := AI σ 4 c = nI (210 + x.1) ∧ AI σ 5 c = (if x.1 ≤ 4 then nI x.2.1 else -1) ∧ AI σ 6 c = nI x.2.2.1 ∧ st + x.2.2.2.length ≤ 400 ∧ AI σ 7 c = nI (400 * r + st) ∧ AI σ 8 c = nI (400 * r + st + x.2.2.2.length) ∧ ∀ j, j < x.2.2.2.length → AI σ 9 (400 * r + st + j) = nI (encC (x.2.2.2.getD j (0, 0)))
def clMs (σ : PS) (r c : Nat) (x : CLS) (st : Nat) : Prop := AI σ 89 c = nI x.1 ∧ AI σ 90 c = nI (if x.1 ≤ 4 then x.2.1 else 0) ∧ (x.1 = 0 ∨ x.1 = 4 ∨ AI σ 91 c = nI x.2.2.1) ∧ st + x.2.2.2.length ≤ 400 ∧ AI σ 92 c = nI st ∧ AI σ 93 c = nI (st + x.2.2.2.length) ∧ ∀ j, j < x.2.2.2.length → AI σ 94 (400 * r + st + j) = nI (x.2.2.2.getD j (0, 0)).1 ∧ AI σ 95 (400 * r + st + j) = nI (x.2.2.2.getD j (0, 0)).2
theorem clC_of {σ : PS} {r c st : Nat} {x : CLS} (h : clCs σ r c x st) : clC σ r c x := ⟨h.1, h.2.1, h.2.2.1, st, h.2.2.2⟩
theorem clM_of {σ : PS} {r c st : Nat} {x : CLS} (h : clMs σ r c x st) : clM σ r c x := ⟨h.1, h.2.1, h.2.2.1, st, h.2.2.2⟩
section KD
variable {B : Nat → Nat} {N u q d L k : Nat} {σ τ υ : PS} {rs : RS}
theorem cg_t {u' : Nat} (h : CG L u σ τ) (g : CG L u' τ υ) (hu : u ≤ u') : CG L u σ υ := ⟨fun o k a b => (g.1 o k a b).trans (h.1 o k a b), g.2.1.trans h.2.1, g.2.2.1.trans h.2.2.1, g.2.2.2.1.trans h.2.2.2.1, fun o a b e => (g.2.2.2.2.1 o a b e).trans (h.2.2.2.2.1 o a b e), fun o j a b => (g.2.2.2.2.2.1 o j a b).trans (h.2.2.2.2.2.1 o j a b), fun j a => (g.2.2.2.2.2.2 j (by omega)).trans (h.2.2.2.2.2.2 j a)⟩
theorem cg_cf (h : CF L u σ τ) : CG L u σ τ := ⟨h.1, h.2.1, h.2.2.1, h.2.2.2.1, fun o a b e => h.2.2.2.2.1 o b e, fun o j a b => by
  rcases a with rfl | rfl
  · rw [h.2.2.2.2.1 6 (by decide) (by decide)]
  · exact h.2.2.2.2.2.1 j b, h.2.2.2.2.2.2⟩
theorem cg_6 {v : Int32} : CG L u σ (wAI σ 6 L v) := ⟨fun _ _ _ _ => rfl, rfl, rfl, rfl, fun o a _ _ => by
  funext j
  rw [AI_n (Or.inl a)], fun o j a b => by rw [AI_n (Or.inr b)], fun j _ => by rw [AI_n (Or.inl (by decide))]⟩
theorem cg_r : CG L u σ σ := ⟨fun _ _ _ _ => rfl, rfl, rfl, rfl, fun _ _ _ _ => rfl, fun _ _ _ _ => rfl, fun _ _ => rfl⟩
theorem kf_cg {r c : Nat} (h : CG L u σ τ) (hc : c ≤ L) : KF r c u σ τ := ⟨fun o k a b => h.1 o k (by omega) b, h.2.1, h.2.2.1, h.2.2.2.1, fun o a => h.2.2.2.2.1 o (by omega) (by omega) (by omega), fun o j a b e => by
  by_cases w : o = 6 ∨ o = 8
  · exact h.2.2.2.2.2.1 o j w (by omega)
  · rw [h.2.2.2.2.1 o (by omega) (by omega) (by omega)], fun j a => h.2.2.2.2.2.2 j a, fun j _ => by rw [h.2.2.2.2.1 3 (by decide) (by decide) (by decide)]⟩
def KB (B : Nat → Nat) (N L u : Nat) (σ τ : PS) (x : Option PO) : RC → Prop
  | Sum.inl (q', num, cs) => CG L u σ τ ∧ CAt B N L (u + cs.length) q' τ ∧ AI τ 6 L = nI num ∧ CodeC τ u cs ∧ x = some (.inl (some (.int (nI 1)), τ))
  | Sum.inr (k, p) => CG L u σ τ ∧ FI τ 12 2 = nI k ∧ FI τ 12 1 = nI p ∧ x = some (.inl (some (.int (nI 0)), τ))
/-- before the semicolon -/
noncomputable def KPre (B : Nat → Nat) (N L u d : Nat) (a1 a2 : Int32) (σ τ : PS) : RC → Prop
  | Sum.inl (q', num, cs) => CG L u σ τ ∧ CAt B N L (u + cs.length) q' τ ∧ AI τ 6 L = nI num ∧ CodeC τ u cs ∧ ∃ a3, Run false (d + 1) 144 102 [some (.ref 12), some (.int a1), some (.int a2), none] [] σ = aft false (d + 1) 144 260 [some (.ref 12), some (.int a1), some (.int a2), some (.int a3)] [] (Run false d 142 0 [some (.ref 12), some (.int (nI 59))] [] τ)
  | Sum.inr (k, p) => CG L u σ τ ∧ FI τ 12 2 = nI k ∧ FI τ 12 1 = nI p ∧ Run false (d + 1) 144 102 [some (.ref 12), some (.int a1), some (.int a2), none] [] σ = some (.inl (some (.int (nI 0)), τ))
/-- the semicolon -/
theorem kD_fin {rc : RC} {a1 a2 : Int32} (hd : 2 ≤ d) (h : ∃ τ, KPre B N L u d a1 a2 σ τ rc) : ∃ τ, KB B N L u σ τ (Run false (d + 1) 144 102 [some (.ref 12), some (.int a1), some (.int a2), none] [] σ) (clR B N rc) := by
  obtain ⟨τ, h⟩ := h
  rcases rc with ⟨q3, num, cs⟩ | ⟨k, p⟩
  · obtain ⟨h1, h2, h3, h4, a3, h5⟩ := h
    obtain ⟨τ2, e1, e2⟩ := c142 (d := d) (c := 59) (by omega) (by decide) h2 (by decide)
    refine ⟨τ2, ?_⟩
    show KB B N L u σ τ2 _ (if tkN B N q3 = 59 then Sum.inl (nxN B N q3, num, cs) else Sum.inr (1, q3))
    have f := cg_t h1 (cg_cf e1) (by omega)
    by_cases v : tkN B N q3 = 59
    · rw [if_pos v] at e2 ⊢
      refine ⟨f, e2.1, ?_, codeC_cf h4 e1 (Nat.le_refl _), ?_⟩
      · rw [e1.2.2.2.2.1 6 (by decide) (by decide)]; exact h3
      · rw [h5, e2.2, aft_v, s144_260, z10, cond_false, is01_1, cond_true]
    · rw [if_neg v] at e2 ⊢
      refine ⟨f, e2.1, e2.2.1, ?_⟩
      rw [h5, e2.2.2, aft_v, s144_260, z00, cond_true, is01_0, cond_true]
  · exact ⟨τ, h⟩
theorem t144_0 : tswF 103 138 210 217 #[45, 127, 127, 138, 71, 138, 116, 108] (nI 210) = 148 := by decide +kernel
theorem t144_1 : tswF 103 138 210 217 #[45, 127, 127, 138, 71, 138, 116, 108] (nI 211) = 230 := by decide +kernel
theorem t144_2 : tswF 103 138 210 217 #[45, 127, 127, 138, 71, 138, 116, 108] (nI 212) = 230 := by decide +kernel
theorem t144_3 : tswF 103 138 210 217 #[45, 127, 127, 138, 71, 138, 116, 108] (nI 213) = 241 := by decide +kernel
theorem t144_4 : tswF 103 138 210 217 #[45, 127, 127, 138, 71, 138, 116, 108] (nI 214) = 174 := by decide +kernel
theorem t144_5 : tswF 103 138 210 217 #[45, 127, 127, 138, 71, 138, 116, 108] (nI 215) = 241 := by decide +kernel
theorem t144_6 : tswF 103 138 210 217 #[45, 127, 127, 138, 71, 138, 116, 108] (nI 216) = 219 := by decide +kernel
theorem t144_7 : tswF 103 138 210 217 #[45, 127, 127, 138, 71, 138, 116, 108] (nI 217) = 211 := by decide +kernel
theorem nv_lt : nvN B N q < 2 ^ 31 := by
  unfold nvN
  split
  · have := cv_le (B := B) (q := q) (dge B N q - q); omega
  · decide
theorem kD_body {a2 : Int32} (hN : N ≤ 400) (hd : dU 0 + 5 ≤ d) (hk : k < 8) (hL : L < 176) (hu : u + N ≤ 4400 + q) (h : CAt B N L u q σ) (h6 : AI σ 6 L = nI 0) (hS : k = 0 → tkN B N q = 61 → CSim B N (fS 0) (dU 0 + 2) (nxN B N q) rs ∧ RP N (nxN B N q) rs) (hE : k = 4 → tkN B N q = 220 → CSim B N (fE 0) (dU 0 + 5) (nxN B N q) rs ∧ RP N (nxN B N q) rs) : ∃ τ, KB B N L u σ τ (Run false (d + 1) 144 102 [some (.ref 12), some (.int (nI (210 + k))), some (.int a2), none] [] σ) (clR B N (bdR B N k q rs)) := by
  have dU0 : dU 0 = 38 := rfl
  refine kD_fin (by omega) ?_
  unfold bdR
  -- a number
  have num : ∀ lo hi seg, lo < 2 ^ 31 → hi < 2 ^ 31 → (∀ τ, aft false (d + 1) 144 seg [some (.ref 12), some (.int (nI (210 + k))), some (.int a2), none] [] (some (.inl (some (.int (nI 1)), τ))) = aft false (d + 1) 144 260 [some (.ref 12), some (.int (nI (210 + k))), some (.int a2), some (.int (nI 1))] [] (Run false d 142 0 [some (.ref 12), some (.int (nI 59))] [] τ) ∧ aft false (d + 1) 144 seg [some (.ref 12), some (.int (nI (210 + k))), some (.int a2), none] [] (some (.inl (some (.int (nI 0)), τ))) = some (.inl (some (.int (nI 0)), τ))) → Run false (d + 1) 144 102 [some (.ref 12), some (.int (nI (210 + k))), some (.int a2), none] [] σ = aft false (d + 1) 144 seg [some (.ref 12), some (.int (nI (210 + k))), some (.int a2), none] [] (Run false d 146 0 [some (.ref 12), some (.int (nI lo)), some (.int (nI hi))] [] σ) → ∃ τ, KPre B N L u d (nI (210 + k)) a2 σ τ (if tkN B N q = 300 ∧ lo ≤ nvN B N q ∧ nvN B N q ≤ hi then Sum.inl (nxN B N q, nvN B N q, []) else Sum.inr (if tkN B N q = 300 then 2 else 1, q)) := by
    intro lo hi seg h1 h2 h3 h4
    obtain ⟨τ, e⟩ := c146 (d := d) (lo := lo) (hi := hi) (by omega) hL h1 h2 nv_lt h
    refine ⟨τ, ?_⟩
    by_cases w : tkN B N q = 300 ∧ lo ≤ nvN B N q ∧ nvN B N q ≤ hi
    · rw [if_pos w] at e ⊢
      refine ⟨cg_t cg_6 (cg_cf e.1) (Nat.le_refl _), e.2.1, ?_, codeC_nil, nI 1, ?_⟩
      · rw [e.1.2.2.2.2.1 6 (by decide) (by decide)]; exact AI_q
      · rw [h4, e.2.2, (h3 τ).1]
    · rw [if_neg w] at e ⊢
      refine ⟨cg_cf e.1, e.2.1, e.2.2.1, ?_⟩
      rw [h4, e.2.2.2, (h3 τ).2]
  match k, hk with
  | 0, _ =>
    rw [if_pos rfl]
    have p0 : Run false (d + 1) 144 102 [some (.ref 12), some (.int (nI (210 + 0))), some (.int a2), none] [] σ = aft false (d + 1) 144 154 [some (.ref 12), some (.int (nI (210 + 0))), some (.int a2), none] [] (Run false d 142 0 [some (.ref 12), some (.int (nI 61))] [] σ) := by
      rw [s144_102, t144_0, s144_148]
    obtain ⟨τ1, a1, a2'⟩ := c142 (d := d) (c := 61) (by omega) (by decide) h (by decide)
    by_cases w : tkN B N q = 61
    · rw [if_pos w] at a2' ⊢
      obtain ⟨hq, n1, n2⟩ := tk_nx w (by decide)
      obtain ⟨x1, x2⟩ := hS rfl w
      obtain ⟨τ2, b1, b2⟩ := x1 d L u τ1 (by omega) hL (by omega) a2'.1
      refine ⟨τ2, ?_⟩
      have f := cf_t a1 b1 (Nat.le_refl _)
      rcases rs with ⟨q3, cs⟩ | ⟨k, p⟩
      · obtain ⟨b3, b4, b5⟩ := b2
        have b6 : Run false d 147 0 [some (.ref 12), some (.int (nI 0)), none, none] [] τ1 = some (.inl (some (.int (nI 1)), τ2)) := b5
        refine ⟨cg_cf f, b3, ?_, b4, nI 1, ?_⟩
        · rw [f.2.2.2.2.1 6 (by decide) (by decide)]; exact h6
        · rw [p0, a2'.2, aft_v, s144_154, z10, cond_false, b6, aft_v, s144_162, z10, cond_false, cond_false]
      · obtain ⟨b3, b4, b5⟩ := b2
        have b6 : Run false d 147 0 [some (.ref 12), some (.int (nI 0)), none, none] [] τ1 = some (.inl (some (.int (nI 0)), τ2)) := b5
        refine ⟨cg_cf f, b3, b4, ?_⟩
        rw [p0, a2'.2, aft_v, s144_154, z10, cond_false, b6, aft_v, s144_162, z00, cond_true, cond_true, is01_0, cond_true]
    · rw [if_neg w] at a2' ⊢
      refine ⟨τ1, cg_cf a1, a2'.1, a2'.2.1, ?_⟩
      rw [p0, a2'.2.2, aft_v, s144_154, z00, cond_true, cond_true, is01_0, cond_true]
  | 1, _ =>
    rw [if_neg (by decide), if_neg (by decide), if_neg (by decide), show loK 1 = 0 from rfl, show hiK 1 = 100 from rfl]
    exact num 0 100 237 (by decide) (by decide) (fun τ => ⟨by rw [aft_v, s144_237, z10, cond_false], by rw [aft_v, s144_237, z00, cond_true, is01_0, cond_true]⟩) (by rw [s144_102, t144_1, s144_230])
  | 2, _ =>
    rw [if_neg (by decide), if_neg (by decide), if_neg (by decide), show loK 2 = 0 from rfl, show hiK 2 = 100 from rfl]
    exact num 0 100 237 (by decide) (by decide) (fun τ => ⟨by rw [aft_v, s144_237, z10, cond_false], by rw [aft_v, s144_237, z00, cond_true, is01_0, cond_true]⟩) (by rw [s144_102, t144_2, s144_230])
  | 3, _ =>
    rw [if_neg (by decide), if_neg (by decide), if_neg (by decide), show loK 3 = 0 from rfl, show hiK 3 = 9999 from rfl]
    exact num 0 9999 249 (by decide) (by decide) (fun τ => ⟨by rw [aft_v, s144_249, z10, cond_false], by rw [aft_v, s144_249, z00, cond_true, is01_0, cond_true]⟩) (by rw [s144_102, t144_3, s144_241])
  | 4, _ =>
    rw [if_neg (by decide), if_pos rfl]
    by_cases w : tkN B N q = 220
    · rw [if_pos w]
      obtain ⟨hq, n1, n2⟩ := tk_nx w (by decide)
      obtain ⟨τ1, a1, a2'⟩ := c142 (d := d) (c := 220) (by omega) (by decide) h (by decide)
      rw [if_pos w] at a2'
      have p0 : Run false (d + 1) 144 102 [some (.ref 12), some (.int (nI (210 + 4))), some (.int a2), none] [] σ = aft false (d + 1) 144 199 [some (.ref 12), some (.int (nI (210 + 4))), some (.int a2), none] [] (Run false d 151 0 [some (.ref 12), some (.int (nI 0)), none] [] τ1) := by
        rw [s144_102, t144_4, s144_174, ca_tok h, oeqT w, cond_true, a2'.2, aft_v, s144_191, z10, cond_false]
      obtain ⟨x1, x2⟩ := hE rfl w
      obtain ⟨τ2, b1, b2⟩ := x1 d L u τ1 (by omega) hL (by omega) a2'.1
      refine ⟨τ2, ?_⟩
      have f := cf_t a1 b1 (Nat.le_refl _)
      rcases rs with ⟨q3, cs⟩ | ⟨k, p⟩
      · obtain ⟨b3, b4, b5⟩ := b2
        have b6 : Run false d 151 0 [some (.ref 12), some (.int (nI 0)), none] [] τ1 = some (.inl (some (.int (nI 1)), τ2)) := b5
        refine ⟨cg_cf f, b3, ?_, b4, nI 1, ?_⟩
        · rw [f.2.2.2.2.1 6 (by decide) (by decide)]; exact h6
        · rw [p0, b6, aft_v, s144_199, z10, cond_false, cond_false]
      · obtain ⟨b3, b4, b5⟩ := b2
        have b6 : Run false d 151 0 [some (.ref 12), some (.int (nI 0)), none] [] τ1 = some (.inl (some (.int (nI 0)), τ2)) := b5
        refine ⟨cg_cf f, b3, b4, ?_⟩
        rw [p0, b6, aft_v, s144_199, z00, cond_true, cond_true, is01_0, cond_true]
    · rw [if_neg w]
      refine ⟨σ, cg_r, h, h6, codeC_nil, nI 1, ?_⟩
      rw [s144_102, t144_4, s144_174, ca_tok h, oeqF w tk_b (by decide), cond_false, z10, cond_false]
  | 5, _ =>
    rw [if_neg (by decide), if_neg (by decide), if_neg (by decide), show loK 5 = 0 from rfl, show hiK 5 = 9999 from rfl]
    exact num 0 9999 249 (by decide) (by decide) (fun τ => ⟨by rw [aft_v, s144_249, z10, cond_false], by rw [aft_v, s144_249, z00, cond_true, is01_0, cond_true]⟩) (by rw [s144_102, t144_5, s144_241])
  | 6, _ =>
    rw [if_neg (by decide), if_neg (by decide), if_neg (by decide), show loK 6 = 1 from rfl, show hiK 6 = 50 from rfl]
    exact num 1 50 226 (by decide) (by decide) (fun τ => ⟨by rw [aft_v, s144_226, z10, cond_false], by rw [aft_v, s144_226, z00, cond_true, is01_0, cond_true]⟩) (by rw [s144_102, t144_6, s144_219])
  | 7, _ =>
    rw [if_neg (by decide), if_neg (by decide), if_pos rfl]
    have p0 : Run false (d + 1) 144 102 [some (.ref 12), some (.int (nI (210 + 7))), some (.int a2), none] [] σ = aft false (d + 1) 144 215 [some (.ref 12), some (.int (nI (210 + 7))), some (.int a2), none] [] (Run false d 145 0 [some (.ref 12)] [] σ) := by
      rw [s144_102, t144_7, s144_211]
    obtain ⟨τ, e⟩ := c145 (d := d) (by omega) hL h
    refine ⟨τ, ?_⟩
    by_cases w : tkN B N q = 218 ∨ tkN B N q = 219
    · rw [if_pos w] at e ⊢
      refine ⟨cg_t cg_6 (cg_cf e.1) (Nat.le_refl _), e.2.1, ?_, codeC_nil, nI 1, ?_⟩
      · rw [e.1.2.2.2.2.1 6 (by decide) (by decide)]; exact AI_q
      · rw [p0, e.2.2, aft_v, s144_215, z10, cond_false]
    · rw [if_neg w] at e ⊢
      refine ⟨cg_cf e.1, e.2.1, e.2.2.1, ?_⟩
      rw [p0, e.2.2.2, aft_v, s144_215, z00, cond_true, is01_0, cond_true]
  | k + 8, hk => exact absurd hk (by omega)
end KD
