/-! THE PURE PROOFS: a text's clauses -/
def whP (N q : Nat) : RWh → Prop
  | Sum.inl (q4, c) => clW c ∧ q < q4 ∧ q4 ≤ N ∧ c.2.2.2.length + q ≤ q4
  | Sum.inr (k, p) => 1 ≤ k ∧ k ≤ 3 ∧ p ≤ N
section TX
variable {B : Nat → Nat} {N q d r n s0 : Nat} {σ τ υ : PS} {rs : RS}
theorem bd_num {k q2 : Nat} (hk : k < 8) {q4 num : Nat} {cs : List CD} (hS : k = 0 → tkN B N q2 = 61 → TY 3 id fa rs) (hE : k = 4 → tkN B N q2 = 220 → TY 0 id tr rs) (h : clR B N (bdR B N k q2 rs) = Sum.inl (q4, num, cs)) : num ≤ 9999 ∧ (k = 1 ∨ k = 2 → num ≤ 100) ∧ (k = 6 → 1 ≤ num ∧ num ≤ 50) ∧ (k = 7 → num ≤ 1) ∧ (k = 0 → tyA [] cs = some [false]) ∧ (k = 4 → cs = [] ∨ tyA [] cs = some [true]) := by
  obtain ⟨q3, h2⟩ : ∃ q3, bdR B N k q2 rs = Sum.inl (q3, num, cs) := by
    cases e : bdR B N k q2 rs with
    | inr x => rw [e] at h; cases h
    | inl x =>
      obtain ⟨q3, num', cs'⟩ := x
      rw [e] at h
      have h' : (if tkN B N q3 = 59 then Sum.inl (nxN B N q3, num', cs') else Sum.inr (1, q3) : RC) = Sum.inl (q4, num, cs) := h
      by_cases v : tkN B N q3 = 59
      · rw [if_pos v] at h'
        injection h' with h'
        injection h' with e1 h'
        injection h' with e2 e3
        exact ⟨q3, by rw [e2, e3]⟩
      · rw [if_neg v] at h'; cases h'
  have two : ∀ {b : Nat} {to : List Bool → List Bool}, TY b id to rs → rs0 rs = Sum.inl (q3, num, cs) → num = 0 ∧ tyA [] cs = some (to []) := by
    intro b to ht he
    rcases rs with ⟨q', cs'⟩ | x
    · have he' : (Sum.inl (q', 0, cs') : RC) = Sum.inl (q3, num, cs) := he
      injection he' with he'
      injection he' with e1 he'
      injection he' with e2 e3
      subst e3
      exact ⟨e2.symm, ht [] (Nat.zero_le _)⟩
    · cases he
  unfold bdR at h2
  by_cases k0 : k = 0
  · subst k0
    rw [if_pos rfl] at h2
    by_cases w : tkN B N q2 = 61
    · rw [if_pos w] at h2
      obtain ⟨a, b⟩ := two (hS rfl w) h2
      exact ⟨by omega, by omega, by omega, by omega, fun _ => b, by omega⟩
    · rw [if_neg w] at h2; cases h2
  rw [if_neg k0] at h2
  by_cases k4 : k = 4
  · subst k4
    rw [if_pos rfl] at h2
    by_cases w : tkN B N q2 = 220
    · rw [if_pos w] at h2
      obtain ⟨a, b⟩ := two (hE rfl w) h2
      exact ⟨by omega, by omega, by omega, by omega, by omega, fun _ => Or.inr b⟩
    · rw [if_neg w] at h2
      injection h2 with h2
      injection h2 with e1 h2
      injection h2 with e2 e3
      exact ⟨by omega, by omega, by omega, by omega, by omega, fun _ => Or.inl e3.symm⟩
  rw [if_neg k4] at h2
  by_cases k7 : k = 7
  · subst k7
    rw [if_pos rfl] at h2
    by_cases w : tkN B N q2 = 218 ∨ tkN B N q2 = 219
    · rw [if_pos w] at h2
      injection h2 with h2
      injection h2 with e1 h2
      injection h2 with e2 e3
      exact ⟨by omega, by omega, by omega, by omega, by omega, by omega⟩
    · rw [if_neg w] at h2; cases h2
  rw [if_neg k7] at h2
  by_cases w : tkN B N q2 = 300 ∧ loK k ≤ nvN B N q2 ∧ nvN B N q2 ≤ hiK k
  · rw [if_pos w] at h2
    injection h2 with h2
    injection h2 with e1 h2
    injection h2 with e2 e3
    obtain ⟨-, w1, w2⟩ := w
    rw [e2] at w1 w2
    unfold loK at w1
    unfold hiK at w2
    refine ⟨?_, ?_, ?_, by omega, by omega, by omega⟩
    · split at w2
      · omega
      · split at w2 <;> omega
    · intro hk
      rw [if_neg (by omega), if_pos hk] at w2
      exact w2
    · intro hk
      rw [if_pos hk] at w1 w2
      exact ⟨w1, w2⟩
  · rw [if_neg w] at h2; cases h2
theorem bdx (hN : N ≤ 400) (hB : ∀ j, j < N → B j ≤ 255) (hq : q ≤ N) : ∃ rs, bdH B N q rs ∧ whP N q (whR B N q rs) := by
  have all := fun q' (h : q' ≤ N) => all_sim hN hB (N - q' + 1) q' h (Nat.lt_succ_self _) 0 (by decide)
  have fin : ∀ rs, bdH B N q rs → (q ≤ N) → whP N q (whR B N q rs) := by
    intro rs hR hqN
    unfold whR
    cases e : hdK B N q with
    | inr x =>
      obtain ⟨k, p⟩ := x
      unfold hdK at e
      show 1 ≤ k ∧ k ≤ 3 ∧ p ≤ N
      by_cases w : 210 ≤ tkN B N q ∧ tkN B N q ≤ 217
      · rw [if_pos w] at e
        obtain ⟨-, -, n2⟩ := tk_nx (rfl : tkN B N q = tkN B N q) (by omega)
        by_cases v : tkN B N q ≤ 214
        · rw [if_pos v] at e
          by_cases v2 : 200 ≤ tkN B N (nxN B N q) ∧ tkN B N (nxN B N q) ≤ 204
          · rw [if_pos v2] at e; cases e
          · rw [if_neg v2] at e
            injection e with e
            injection e with e1 e2
            omega
        · rw [if_neg v] at e; cases e
      · rw [if_neg w] at e
        injection e with e
        injection e with e1 e2
        omega
    | inl x =>
      obtain ⟨k, s, q2⟩ := x
      obtain ⟨g1, g2, g3, g4, g5⟩ := hdK_r e
      obtain ⟨hS, hE⟩ := hR k s q2 e
      have hend := bd_end (B := B) (N := N) (rs := rs) g1 g5 (fun x y => (hS x y).2.2.1) (fun x y => (hE x y).2.2.1)
      show whP N q (match clR B N (bdR B N k q2 rs) with | Sum.inr x => Sum.inr x | Sum.inl (q4, num, cs) => Sum.inl (q4, (k, s, num, cs)))
      cases e2 : clR B N (bdR B N k q2 rs) with
      | inr x => rw [e2] at hend; exact hend
      | inl x =>
        obtain ⟨q4, num, cs⟩ := x
        rw [e2] at hend
        obtain ⟨c1, c2, c3⟩ := hend
        have hn := bd_num g1 (fun x y => (hS x y).2.2.2) (fun x y => (hE x y).2.2.2) e2
        refine ⟨⟨by omega, g2, hn⟩, by omega, c2, by show cs.length + q ≤ q4; omega⟩
  cases e : hdK B N q with
  | inr x =>
    have h0 : bdH B N q (Sum.inr (1, 0)) := (fun k s q2 h => by rw [e] at h; cases h)
    exact ⟨Sum.inr (1, 0), h0, fin _ h0 hq⟩
  | inl x =>
    obtain ⟨k, s, q2⟩ := x
    have mk : ∀ rs, ((k = 0 → tkN B N q2 = 61 → CSim B N (fS 0) (dU 0 + 2) (nxN B N q2) rs ∧ MSim B N gS (dU 0 + 2) 0 (nxN B N q2) rs ∧ PRp N (nxN B N q2) rs ∧ TY 3 id fa rs) ∧ (k = 4 → tkN B N q2 = 220 → CSim B N (fE 0) (dU 0 + 5) (nxN B N q2) rs ∧ MSim B N gE (dU 0 + 5) 0 (nxN B N q2) rs ∧ PRp N (nxN B N q2) rs ∧ TY 0 id tr rs)) → ∃ rs, bdH B N q rs ∧ whP N q (whR B N q rs) := by
      intro rs h
      have hb : bdH B N q rs := by
        intro k' s' q2' h'
        rw [e] at h'
        injection h' with h'
        injection h' with e1 h'
        injection h' with e2 e3
        subst e1
        subst e3
        exact h
      exact ⟨rs, hb, fin rs hb hq⟩
    by_cases k0 : k = 0
    · by_cases w : tkN B N q2 = 61
      · obtain ⟨-, -, n2⟩ := tk_nx w (by decide)
        obtain ⟨-, -, ⟨rs, h⟩, -⟩ := all _ n2
        exact mk rs ⟨fun _ _ => h, by omega⟩
      · exact mk (Sum.inr (1, 0)) ⟨fun _ x => absurd x w, by omega⟩
    · by_cases k4 : k = 4
      · by_cases w : tkN B N q2 = 220
        · obtain ⟨-, -, n2⟩ := tk_nx w (by decide)
          obtain ⟨-, -, -, -, -, -, -, ⟨rs, h⟩, -⟩ := all _ n2
          exact mk rs ⟨by omega, fun _ _ => h⟩
        · exact mk (Sum.inr (1, 0)) ⟨by omega, fun _ x => absurd x w⟩
      · exact mk (Sum.inr (1, 0)) ⟨by omega, by omega⟩
end TX
