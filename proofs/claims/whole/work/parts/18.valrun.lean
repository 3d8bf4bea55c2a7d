/-! THE PURE PROOFS: both machines reckon that value -/
theorem drop_c {cs rest : List CD} {c : CD} {i : Nat} (h : cs.drop i = c :: rest) : i < cs.length ∧ cs.getD i (0, 0) = c ∧ cs.drop (i + 1) = rest := by
  have h1 : i < cs.length := by
    rcases Nat.lt_or_ge i cs.length with q | q
    · exact q
    · rw [List.drop_eq_nil_of_le q] at h; cases h
  rw [List.drop_eq_getElem_cons h1] at h
  have h2 : cs[i] = c := (List.cons.inj h).1
  refine ⟨h1, ?_, (List.cons.inj h).2⟩
  rw [List.getD_eq_getElem?_getD, List.getElem?_eq_getElem h1]
  exact h2
theorem getD_0 {v : Int32} {r : List Int32} : (v :: r).getD 0 (nI 0) = v := rfl
def fC (τ : PS) (F : FCT) : Prop := AI τ 10 0 = F.1 ∧ AI τ 10 1 = F.2.1 ∧ AI τ 10 2 = F.2.2.1 ∧ AI τ 10 3 = F.2.2.2.1 ∧ AI τ 10 4 = F.2.2.2.2
theorem fC_w {τ : PS} {F : FCT} {j : Nat} {v : Int32} (h : fC τ F) : fC (wAI τ 11 j v) F := h
theorem tyC_len {t t' : List Bool} {c : CD} (h : tyC t c = some t') (hl : t.length ≤ 60) : t'.length ≤ 60 := by
  unfold tyC at h
  by_cases h5 : c.1 ≤ 5
  · rw [if_pos h5] at h
    by_cases q : t.length ≤ 59 ∧ c.2 ≤ 9999
    · rw [if_pos q] at h
      cases h
      rw [List.length_cons]; omega
    · rw [if_neg q] at h; cases h
  · rw [if_neg h5] at h
    have m1 : ∀ (b1 b2 : Bool) (r : List Bool), (b1 :: b2 :: r).length ≤ 60 → ∀ b, (b :: r).length ≤ 60 := fun b1 b2 r q b => by rw [List.length_cons, List.length_cons] at q; rw [List.length_cons]; omega
    have m2 : ∀ (b1 : Bool) (r : List Bool), (b1 :: r).length ≤ 60 → ∀ b, (b :: r).length ≤ 60 := fun b1 r q b => q
    split at h
    · split at h
      · cases h; exact m1 _ _ _ hl _
      · cases h
    · split at h
      · split at h
        · cases h; exact m1 _ _ _ hl _
        · cases h
      · split at h
        · split at h
          · cases h; exact m1 _ _ _ hl _
          · cases h
        · split at h
          · split at h
            · cases h; exact m2 _ _ hl _
            · cases h
          · cases h
set_option maxHeartbeats 2000000 in
theorem c102_lp {d c r : Nat} {σ : PS} {x : CLS} {F : FCT} {q : Bool} {a2 a3 a4 a5 a6 : Int32} (hc : c < 176) (hr : r < 11) (h : clC σ r c x) : ∀ (rest : List CD) (i : Nat) (st : List Int32) (t : List Bool) (τ : PS) (z9 : Option Value), x.2.2.2.drop i = rest → i ≤ x.2.2.2.length → t.length ≤ 60 → tyA t rest = some [q] → stT st t → Stk σ τ → fC τ F → AS τ 11 st →
    ∃ τ', Stk σ τ' ∧ Run false (d + 2) 102 49 [some (.ref 1), some (.int (nI c)), some (.int a2), some (.int a3), some (.int a4), some (.int a5), some (.int a6), some (.int (nI st.length)), some (.int (AI σ 7 c + nI i)), z9] [] τ = some (.inl (some (.int ((evL F st rest).getD 0 (nI 0))), τ')) := by
  obtain ⟨g4, g5, g6, s0, hlen, g7, g8, g9⟩ := h
  intro rest
  induction rest with
  | nil =>
    intro i st t τ z9 h1 hi0 hT h2 h3 h4 h5 h6
    refine ⟨τ, h4, ?_⟩
    have hi : x.2.2.2.length ≤ i := List.drop_eq_nil_iff.mp h1
    cases h2
    match st, h3 with
    | [v], _ =>
      rw [s102_49, inbT hc (by decide), cond_true, nI_clamp (by omega), stkA h4 8 rfl, g8, g7, nI_add]
      rw [oleT (by omega) (by omega), cond_true, inbT (by decide) (by decide), cond_true, nI_clamp (by decide)]
      rw [show AI τ 11 0 = v from h6.1]
      rfl
  | cons cd rest ih =>
    intro i st t τ z9 h1 hi0 hT h2 h3 h4 h5 h6
    obtain ⟨d1, d2, d3⟩ := drop_c h1
    have hst := stT_len h3
    unfold tyA at h2
    cases e1 : tyC t cd with
    | none => rw [e1] at h2; cases h2
    | some t' =>
      rw [e1] at h2
      have hT' := tyC_len e1 hT
      have hcode : AI τ 9 (400 * r + s0 + i) = nI (encC cd) := by rw [stkA h4 9 rfl, g9 i d1, d2]
      rw [s102_49, inbT hc (by decide), cond_true, nI_clamp (by omega), stkA h4 8 rfl, g8, g7, nI_add, oleF (by omega) (by omega), cond_false, inbT (show 400 * r + s0 + i < 4400 by omega) (by decide), cond_true]
      simp (disch := omega) only [nI_clamp]
      rw [hcode]
      rcases tyC_cases e1 h3 with ⟨k1, k2, k3, k4⟩ | ⟨k1, k2, a, b, u, rfl, k4, k5⟩ | ⟨k1, a, u, rfl, k2⟩
      · by_cases k0 : cd.1 = 0
        · rw [enc_num k0]
          obtain ⟨τ', o1, o2⟩ := ih (i + 1) (nI cd.2 :: st) t' (wAI τ 11 st.length (nI cd.2)) (some (.int (nI cd.2))) d3 d1 hT' h2 (k4 _) (stk_ai h4 rfl) (fC_w h5) (AS_p h6)
          refine ⟨τ', o1, ?_⟩
          rw [oleF (show cd.2 < 10010 by omega) (by decide), cond_false, oleF (show st.length < 64 by omega) (by decide), cond_false, oleF (show cd.2 < 10000 by omega) (by decide), cond_false, inbT (show st.length < 64 by omega) (by decide), cond_true, nI_add, nI_add]
          rw [g7, nI_add] at o2
          refine o2.trans ?_
          show _ = some (Sum.inl (some (Value.int ((evL F (evC F st cd) rest).getD 0 (nI 0))), τ'))
          unfold evC
          rw [if_pos k0]
        · rw [enc_fact (by omega) k1]
          have hf : AI τ 10 (cd.1 - 1) = fct F cd.1 := by
            have : cd.1 = 1 ∨ cd.1 = 2 ∨ cd.1 = 3 ∨ cd.1 = 4 ∨ cd.1 = 5 := by omega
            obtain ⟨f1, f2, f3, f4, f5⟩ := h5
            rcases this with e | e | e | e | e <;> rw [e] <;> assumption
          obtain ⟨τ', o1, o2⟩ := ih (i + 1) (fct F cd.1 :: st) t' (wAI τ 11 st.length (fct F cd.1)) (some (.int (nI (9999 + cd.1)))) d3 d1 hT' h2 (k4 _) (stk_ai h4 rfl) (fC_w h5) (AS_p h6)
          refine ⟨τ', o1, ?_⟩
          rw [oleF (show 9999 + cd.1 < 10010 by omega) (by decide), cond_false, oleF (show st.length < 64 by omega) (by decide), cond_false, oleT (show 10000 ≤ 9999 + cd.1 by omega) (by omega), cond_true, nI_sub (show 10000 ≤ 9999 + cd.1 by omega), if_neg (nI_nlt (show 9999 + cd.1 - 10000 ≤ 4 by omega) (by decide)), inbT (show 9999 + cd.1 - 10000 < 5 by omega) (by decide), cond_true, inbT (show st.length < 64 by omega) (by decide), cond_true, nI_add, nI_add, show 9999 + cd.1 - 10000 = cd.1 - 1 by omega]
          simp (disch := omega) only [nI_clamp]
          rw [hf]
          rw [g7, nI_add] at o2
          refine o2.trans ?_
          show _ = some (Sum.inl (some (Value.int ((evL F (evC F st cd) rest).getD 0 (nI 0))), τ'))
          unfold evC
          rw [if_neg k0, if_pos k1]
      · obtain ⟨e3, e4⟩ := enc_op k1 k2
        obtain ⟨τ', o1, o2⟩ := ih (i + 1) (two cd.1 a b :: u) t' (wAI τ 11 u.length (two cd.1 a b)) (some (.int (nI (encC cd)))) d3 d1 hT' h2 k5 (stk_ai h4 rfl) (fC_w h5) (AS_p h6.2.2)
        refine ⟨τ', o1, ?_⟩
        rw [List.length_cons, List.length_cons] at hst ⊢
        have a1 : AI τ 11 u.length = a := h6.2.1
        have a2 : AI τ 11 (u.length + 1) = b := h6.1
        rw [oleT e3 (by omega), cond_true, oeqF (show encC cd ≠ 10021 by omega) (by omega) (by decide), cond_false, oltF (show 10010 ≤ encC cd by omega) (by omega), cond_false, oleF (show 1 < u.length + 1 + 1 by omega) (by omega), cond_false, nI_m1 (by omega), show u.length + 1 + 1 - 1 = u.length + 1 by omega, nI_s1, inbT (show u.length < 64 by omega) (by decide), cond_true, inbT (show u.length + 1 < 64 by omega) (by decide), cond_true, nI_clamp (by omega), nI_clamp (by omega), a1, a2, c103 (by omega) k1 k2, aft_v, s102_207, inbT (show u.length < 64 by omega) (by decide), cond_true, nI_add, nI_clamp (by omega)]
        rw [g7, nI_add] at o2
        refine o2.trans ?_
        show _ = some (Sum.inl (some (Value.int ((evL F (evC F (b :: a :: u) cd) rest).getD 0 (nI 0))), τ'))
        unfold evC
        rw [if_neg (by omega), if_neg (by omega), if_neg (by omega)]
      · obtain ⟨τ', o1, o2⟩ := ih (i + 1) ((nI 1 - a) :: u) t' (wAI τ 11 u.length (nI 1 - a)) (some (.int (nI (encC cd)))) d3 d1 hT' h2 k2 (stk_ai h4 rfl) (fC_w h5) (AS_p h6.2)
        refine ⟨τ', o1, ?_⟩
        rw [List.length_cons] at hst ⊢
        have a1 : AI τ 11 u.length = a := h6.1
        rw [enc_not k1] at o2 ⊢
        rw [oleT (by decide) (by decide), cond_true, oeqT rfl, cond_true, oleF (show 0 < u.length + 1 by omega) (by omega), cond_false, nI_s1, inbT (show u.length < 64 by omega) (by decide), cond_true, cond_true, nI_clamp (by omega), a1, nI_add]
        rw [g7, nI_add] at o2
        refine o2.trans ?_
        show _ = some (Sum.inl (some (Value.int ((evL F (evC F (a :: u) cd) rest).getD 0 (nI 0))), τ'))
        unfold evC
        rw [if_neg (by omega), if_neg (by omega), if_pos k1]
/-- the class's value of a clause -/
theorem c102 {d c r : Nat} {σ : PS} {x : CLS} {F : FCT} {q : Bool} (hd : 2 ≤ d) (hc : c < 176) (hr : r < 11) (h : clC σ r c x) (ht : tyA [] x.2.2.2 = some [q]) : ∃ τ, Stk σ τ ∧ Run false d 102 0 [some (.ref 1), some (.int (nI c)), some (.int F.1), some (.int F.2.1), some (.int F.2.2.1), some (.int F.2.2.2.1), some (.int F.2.2.2.2), none, none, none] [] σ = some (.inl (some (.int (valC F x.2.2.2)), τ)) := by
  obtain ⟨d, rfl⟩ : ∃ z, d = z + 2 := ⟨d - 2, by omega⟩
  have h1 : Stk σ (wAI (wAI (wAI (wAI (wAI σ 10 0 F.1) 10 1 F.2.1) 10 2 F.2.2.1) 10 3 F.2.2.2.1) 10 4 F.2.2.2.2) := stk_ai (stk_ai (stk_ai (stk_ai (stk_ai stk_r rfl) rfl) rfl) rfl) rfl
  obtain ⟨τ, o1, o2⟩ := c102_lp (d := d) (q := q) (F := F) (a2 := F.1) (a3 := F.2.1) (a4 := F.2.2.1) (a5 := F.2.2.2.1) (a6 := F.2.2.2.2) hc hr h x.2.2.2 0 [] [] _ none rfl (Nat.zero_le _) (Nat.zero_le _) ht trivial h1 ⟨rfl, rfl, rfl, rfl, rfl⟩ trivial
  refine ⟨τ, o1, ?_⟩
  rw [s102_0]
  simp (disch := decide) only [inbT, cond_true, nI_clamp]
  rw [inbT hc (by decide), cond_true, nI_clamp (by omega)]
  have e : AI σ 7 c + nI 0 = AI σ 7 c := by rw [nI_0, Int32.add_zero]
  rw [e] at o2
  exact o2
theorem nI_quo {a b : Nat} (ha : a < 2 ^ 31) (hb : b < 2 ^ 31) : nI a / nI b = nI (a / b) := by
  apply Int32.toInt_inj.mp
  have hq : a / b ≤ a := Nat.div_le_self a b
  rw [Int32.toInt_div, nI_toInt ha, nI_toInt hb, nI_toInt (by omega), ← Int.ofNat_tdiv]
  generalize a / b = z at hq ⊢
  apply Int.bmod_eq_of_le <;> omega
def fM (τ : PS) (F : FCT) : Prop := FI τ 85 23 = F.1 ∧ FI τ 85 24 = F.2.1 ∧ FI τ 85 25 = F.2.2.1 ∧ FI τ 85 26 = F.2.2.2.1 ∧ FI τ 85 27 = F.2.2.2.2
theorem fM_w {τ : PS} {F : FCT} {j : Nat} {v : Int32} (h : fM τ F) : fM (wAI τ 96 j v) F := h
set_option maxHeartbeats 2000000 in
theorem c203_lp {d c r : Nat} {σ : PS} {x : CLS} {F : FCT} {q : Bool} (hc : c < 176) (hcr : c / 16 = r) (h : clM σ r c x) : ∀ (rest : List CD) (i : Nat) (st : List Int32) (t : List Bool) (τ : PS) (z4 : Option Value), x.2.2.2.drop i = rest → i ≤ x.2.2.2.length → t.length ≤ 60 → tyA t rest = some [q] → stT st t → Stk σ τ → fM τ F → AS τ 96 st →
    ∃ τ', Stk σ τ' ∧ Run false (d + 2) 203 18 [some (.ref 85), some (.int (nI c)), some (.int (nI st.length)), some (.int (nI (400 * r) + AI σ 92 c + nI i)), z4] [] τ = some (.inl (some (.int ((evL F st rest).getD 0 (nI 0))), τ')) := by
  obtain ⟨g4, g5, g6, s0, hlen, g7, g8, g9⟩ := h
  have hr : r < 11 := by omega
  have z16 : obl (nI 16 = nI 0) = false := oeqF (by decide) (by decide) (by decide)
  intro rest
  induction rest with
  | nil =>
    intro i st t τ z4 h1 hi0 hT h2 h3 h4 h5 h6
    refine ⟨τ, h4, ?_⟩
    have hi : x.2.2.2.length ≤ i := List.drop_eq_nil_iff.mp h1
    cases h2
    match st, h3 with
    | [v], _ =>
      rw [s203_18, z16, cond_false, inbT hc (by decide), cond_true, nI_clamp (by omega), stkA h4 93 rfl, g8, g7, nI_quo (by omega) (by decide), hcr, nI_mul, nI_add, nI_add, nI_add]
      rw [oleT (by omega) (by omega), cond_true, show [v].length = 1 from rfl, z10, cond_false, inbT (by decide) (by decide), cond_true, nI_clamp (by decide)]
      rw [show AI τ 96 0 = v from h6.1]
      rfl
  | cons cd rest ih =>
    intro i st t τ z4 h1 hi0 hT h2 h3 h4 h5 h6
    obtain ⟨d1, d2, d3⟩ := drop_c h1
    have hst := stT_len h3
    unfold tyA at h2
    cases e1 : tyC t cd with
    | none => rw [e1] at h2; cases h2
    | some t' =>
      rw [e1] at h2
      have hT' := tyC_len e1 hT
      obtain ⟨g9a, g9b⟩ := g9 i d1
      rw [d2] at g9a g9b
      have hcode : AI τ 94 (400 * r + s0 + i) = nI cd.1 := by rw [stkA h4 94 rfl, g9a]
      have hnum : AI τ 95 (400 * r + s0 + i) = nI cd.2 := by rw [stkA h4 95 rfl, g9b]
      rw [s203_18, z16, cond_false, inbT hc (by decide), cond_true, nI_clamp (by omega), stkA h4 93 rfl, g8, g7, nI_quo (by omega) (by decide), hcr, nI_mul, nI_add, nI_add, nI_add, oleF (by omega) (by omega), cond_false, inbT (show 400 * r + s0 + i < 4400 by omega) (by decide), cond_true]
      simp (disch := omega) only [nI_clamp]
      rw [hcode, hnum]
      have hI : ∀ j, nI (400 * r) + nI s0 + nI j = nI (400 * r + s0 + j) := fun j => by rw [nI_add, nI_add]
      rcases tyC_cases e1 h3 with ⟨k1, k2, k3, k4⟩ | ⟨k1, k2, a, b, u, rfl, k4, k5⟩ | ⟨k1, a, u, rfl, k2⟩
      · have push : ∀ v, evC F st cd = v :: st → ∃ τ', Stk σ τ' ∧ Run false (d + 2) 203 18 [some (.ref 85), some (.int (nI c)), some (.int (nI st.length + nI 1)), some (.int (nI (400 * r + s0 + i) + nI 1)), some (.int (nI cd.1))] [] (wAI τ 96 st.length v) = some (.inl (some (.int ((evL F st (cd :: rest)).getD 0 (nI 0))), τ')) := by
          intro v hv
          obtain ⟨τ', o1, o2⟩ := ih (i + 1) (v :: st) t' (wAI τ 96 st.length v) (some (.int (nI cd.1))) d3 d1 hT' h2 (k4 _) (stk_ai h4 rfl) (fM_w h5) (AS_p h6)
          refine ⟨τ', o1, ?_⟩
          rw [g7, hI] at o2
          rw [nI_add, nI_add]
          refine o2.trans ?_
          show _ = some (Sum.inl (some (Value.int ((evL F (evC F st cd) rest).getD 0 (nI 0))), τ'))
          rw [hv]
        obtain ⟨f1, f2, f3, f4, f5⟩ := h5
        rw [oltF (show cd.1 ≤ 5 by omega) (by omega), cond_false, inbT (show st.length < 200 by omega) (by decide), f1, f2, f3, f4, f5]
        have hcd : cd.1 = 0 ∨ cd.1 = 1 ∨ cd.1 = 2 ∨ cd.1 = 3 ∨ cd.1 = 4 ∨ cd.1 = 5 := by omega
        rcases hcd with e | e | e | e | e | e
        · have := push (nI cd.2) (by unfold evC; rw [if_pos e])
          rw [e] at this ⊢
          rw [oeqT rfl]
          exact this
        · have := push F.1 (by unfold evC; rw [if_neg (by omega), if_pos k1, e]; rfl)
          rw [e] at this ⊢
          rw [oeqF (show 1 ≠ 0 by decide) (by decide) (by decide), oeqT rfl]
          exact this
        · have := push F.2.1 (by unfold evC; rw [if_neg (by omega), if_pos k1, e]; rfl)
          rw [e] at this ⊢
          rw [oeqF (show 2 ≠ 0 by decide) (by decide) (by decide), oeqF (show 2 ≠ 1 by decide) (by decide) (by decide), oeqT rfl]
          exact this
        · have := push F.2.2.1 (by unfold evC; rw [if_neg (by omega), if_pos k1, e]; rfl)
          rw [e] at this ⊢
          rw [oeqF (show 3 ≠ 0 by decide) (by decide) (by decide), oeqF (show 3 ≠ 1 by decide) (by decide) (by decide), oeqF (show 3 ≠ 2 by decide) (by decide) (by decide), oeqT rfl]
          exact this
        · have := push F.2.2.2.1 (by unfold evC; rw [if_neg (by omega), if_pos k1, e]; rfl)
          rw [e] at this ⊢
          rw [oeqF (show 4 ≠ 0 by decide) (by decide) (by decide), oeqF (show 4 ≠ 1 by decide) (by decide) (by decide), oeqF (show 4 ≠ 2 by decide) (by decide) (by decide), oeqF (show 4 ≠ 3 by decide) (by decide) (by decide), oeqT rfl]
          exact this
        · have := push F.2.2.2.2 (by unfold evC; rw [if_neg (by omega), if_pos k1, e]; rfl)
          rw [e] at this ⊢
          rw [oeqF (show 5 ≠ 0 by decide) (by decide) (by decide), oeqF (show 5 ≠ 1 by decide) (by decide) (by decide), oeqF (show 5 ≠ 2 by decide) (by decide) (by decide), oeqF (show 5 ≠ 3 by decide) (by decide) (by decide), oeqF (show 5 ≠ 4 by decide) (by decide) (by decide)]
          exact this
      · obtain ⟨τ', o1, o2⟩ := ih (i + 1) (two cd.1 a b :: u) t' (wAI τ 96 u.length (two cd.1 a b)) (some (.int (nI cd.1))) d3 d1 hT' h2 k5 (stk_ai h4 rfl) (fM_w h5) (AS_p h6.2.2)
        refine ⟨τ', o1, ?_⟩
        rw [List.length_cons, List.length_cons] at hst ⊢
        have a1 : AI τ 96 u.length = a := h6.2.1
        have a2 : AI τ 96 (u.length + 1) = b := h6.1
        rw [oltT (show 5 < cd.1 by omega) (by omega), cond_true, oeqF (show cd.1 ≠ 17 by omega) (by omega) (by decide), cond_false, nI_m1 (by omega), show u.length + 1 + 1 - 1 = u.length + 1 by omega, nI_s1, inbT (show u.length < 200 by omega) (by decide), cond_true, inbT (show u.length + 1 < 200 by omega) (by decide), cond_true, nI_clamp (by omega), nI_clamp (by omega), a1, a2, c204 (by omega) k1 k2 k4, aft_v, s203_190, inbT (show u.length < 200 by omega) (by decide), cond_true, nI_add, nI_clamp (by omega)]
        rw [g7, hI] at o2
        refine o2.trans ?_
        show _ = some (Sum.inl (some (Value.int ((evL F (evC F (b :: a :: u) cd) rest).getD 0 (nI 0))), τ'))
        unfold evC
        rw [if_neg (by omega), if_neg (by omega), if_neg (by omega)]
      · obtain ⟨τ', o1, o2⟩ := ih (i + 1) ((nI 1 - a) :: u) t' (wAI τ 96 u.length (nI 1 - a)) (some (.int (nI cd.1))) d3 d1 hT' h2 k2 (stk_ai h4 rfl) (fM_w h5) (AS_p h6.2)
        refine ⟨τ', o1, ?_⟩
        rw [List.length_cons] at hst ⊢
        have a1 : AI τ 96 u.length = a := h6.1
        rw [oltT (show 5 < cd.1 by omega) (by omega), cond_true, oeqT k1, cond_true, nI_s1, inbT (show u.length < 200 by omega) (by decide), cond_true, cond_true, nI_clamp (by omega), a1, nI_add]
        rw [g7, hI] at o2
        refine o2.trans ?_
        show _ = some (Sum.inl (some (Value.int ((evL F (evC F (a :: u) cd) rest).getD 0 (nI 0))), τ'))
        unfold evC
        rw [if_neg (by omega), if_neg (by omega), if_pos k1]
/-- the model's value of a clause -/
theorem c203 {d c r : Nat} {σ : PS} {x : CLS} {F : FCT} {q : Bool} (hd : 2 ≤ d) (hc : c < 176) (hcr : c / 16 = r) (h : clM σ r c x) (ht : tyA [] x.2.2.2 = some [q]) (hf : fM σ F) : ∃ τ, Stk σ τ ∧ Run false d 203 0 [some (.ref 85), some (.int (nI c)), none, none, none] [] σ = some (.inl (some (.int (valC F x.2.2.2)), τ)) := by
  obtain ⟨d, rfl⟩ : ∃ z, d = z + 2 := ⟨d - 2, by omega⟩
  obtain ⟨τ, o1, o2⟩ := c203_lp (d := d) (q := q) (F := F) hc hcr h x.2.2.2 0 [] [] σ none rfl (Nat.zero_le _) (Nat.zero_le _) ht trivial stk_r hf trivial
  refine ⟨τ, o1, ?_⟩
  rw [s203_0, oeqF (show 16 ≠ 0 by decide) (by decide) (by decide), cond_false, inbT hc (by decide), cond_true, nI_clamp (by omega), nI_quo (by omega) (by decide), hcr, nI_mul]
  have e : nI (400 * r) + AI σ 92 c + nI 0 = nI (400 * r) + AI σ 92 c := by rw [nI_0, Int32.add_zero]
  rw [e] at o2
  exact o2
/-- a clause without steps -/
theorem c203_no {d c r : Nat} {σ : PS} {x : CLS} (hd : 1 ≤ d) (hc : c < 176) (hcr : c / 16 = r) (h : clM σ r c x) (ht : x.2.2.2 = []) : Run false d 203 0 [some (.ref 85), some (.int (nI c)), none, none, none] [] σ = some (.inl (some (.int (nI 1)), σ)) := by
  obtain ⟨d, rfl⟩ := dS hd
  obtain ⟨g4, g5, g6, s0, hlen, g7, g8, g9⟩ := h
  rw [ht] at g8 hlen
  rw [s203_0, oeqF (show 16 ≠ 0 by decide) (by decide) (by decide), cond_false, inbT hc (by decide), cond_true, s203_18, oeqF (show 16 ≠ 0 by decide) (by decide) (by decide), cond_false, inbT hc (by decide), cond_true, nI_clamp (by omega), nI_quo (by omega) (by decide), hcr, nI_mul, g7, g8, nI_add, nI_add, oleT (by show _ + (s0 + 0) ≤ _; omega) (by have : s0 ≤ 400 := hlen; omega), cond_true, z00]
  rfl
