/-! THE PURE PROOFS: the class's tokens -/
section TC
variable {d N q : Nat} {B : Nat → Nat} {σ : PS}
theorem dg_o {b : Nat} (h : b ≤ 255) : obl (nI b < nI 48) = !Nat.ble 48 b ∧ obl (nI 57 < nI b) = !Nat.ble b 57 := ⟨Ob_lt (by omega) (by decide), Ob_lt (by decide) (by omega)⟩
theorem lt_o {b : Nat} (h : b ≤ 255) : obl (nI b < nI 97) = !Nat.ble 97 b ∧ obl (nI 122 < nI b) = !Nat.ble b 122 := ⟨Ob_lt (by omega) (by decide), Ob_lt (by decide) (by omega)⟩
theorem c136 {b : Nat} (hd : 1 ≤ d) (h : b ≤ 255) : Run false d 136 0 [some (.int (nI b))] [] σ = some (.inl (some (.int (bo1 (isDg b))), σ)) := by
  obtain ⟨d, rfl⟩ := dS hd
  rw [s136_0, (dg_o h).1, (dg_o h).2, is01_0, is01_1]
  unfold isDg bo1
  cases Nat.ble 48 b
  · rfl
  · cases Nat.ble b 57 <;> rfl
theorem c137 {b : Nat} (hd : 1 ≤ d) (h : b ≤ 255) : Run false d 137 0 [some (.int (nI b))] [] σ = some (.inl (some (.int (bo1 (isLt b))), σ)) := by
  obtain ⟨d, rfl⟩ := dS hd
  rw [s137_0, (lt_o h).1, (lt_o h).2, is01_0, is01_1]
  unfold isLt bo1
  cases Nat.ble 97 b
  · rfl
  · cases Nat.ble b 122 <;> rfl
theorem bo1_0 {b : Bool} : obl (bo1 b = nI 0) = !b := by
  cases b
  · exact z00
  · exact z10
theorem mn10 {x : Nat} (h : x < 2 ^ 31) : (if nI x < nI 10000 then nI x else nI 10000) = nI (min 10000 x) := by
  by_cases w : x < 10000
  · rw [if_pos (nI_lt w (by decide)), Nat.min_eq_right (by omega)]
  · rw [if_neg (nI_nlt (by omega) h), Nat.min_eq_left (by omega)]
theorem cv_le : ∀ n, cvN B q n ≤ 10000 := by
  intro n
  cases n with
  | zero => exact Nat.zero_le _
  | succ n => exact Nat.min_le_left _ _
theorem c138 {n : Nat} (hd : 1 ≤ d) (hN : q + n ≤ 400) (hB : ∀ i, i < n → AI σ 13 (q + i) = nI (B (q + i)) ∧ isDg (B (q + i)) = true) : Run false d 138 0 [some (.ref 12), some (.int (nI q)), some (.int (nI (q + n))), none, none] [] σ = some (.inl (some (.int (nI (cvN B q n))), σ)) := by
  obtain ⟨d, rfl⟩ := dS hd
  rw [s138_0]
  refine (lpU (f := fun j => Run false (d + 1) 138 5 [some (.ref 12), some (.int (nI q)), some (.int (nI (q + n))), some (.int (nI (cvN B q j))), some (.int (nI (q + j)))] [] σ) (n := n) (fun j hj => ?_) 0 (Nat.zero_le _)).trans ?_
  · obtain ⟨e1, e2⟩ := hB j hj
    have hd := dg_r e2
    have hc := cv_le (B := B) (q := q) j
    show _ = Run false (d + 1) 138 5 [some (.ref 12), some (.int (nI q)), some (.int (nI (q + n))), some (.int (nI (min 10000 (cvN B q j * 10 + (B (q + j) - 48))))), some (.int (nI (q + j + 1)))] [] σ
    rw [s138_5, oleF (by omega) (by omega), cond_false, inbT (by omega) (by decide), cond_true, nI_clamp (by omega), e1, nI_mul, nI_add, nI_sub (by omega), show cvN B q j * 10 + B (q + j) - 48 = cvN B q j * 10 + (B (q + j) - 48) by omega, mn10 (by omega), nI_add]
  · show Run false (d + 1) 138 5 _ [] σ = _
    rw [s138_5, oleT (Nat.le_refl _) (by omega), cond_true]
theorem strW_len : strW.length < 200 := by decide +kernel
theorem strW_all : strW.all (fun c => Nat.ble c 255) = true := by decide +kernel
theorem c139 {n : Nat} (hd : 1 ≤ d) (hN : q + n ≤ 400) (hB : ∀ i, i < n → AI σ 13 (q + i) = nI (B (q + i)) ∧ B (q + i) ≤ 255) : Run false d 139 0 [some (.ref 12), some (.int (nI q)), some (.int (nI (q + n))), none, none, none, none, none] [] σ = some (.inl (some (.int (nI (wrd B q n strW 200 0 true))), σ)) := by
  obtain ⟨d, rfl⟩ := dS hd
  have key : ∀ (rest : List Nat) (i k m : Nat) (s : Bool), strW.drop i = rest → i ≤ strW.length → m ≤ i → Run false (d + 1) 139 18 [some (.ref 12), some (.int (nI q)), some (.int (nI (q + n))), some (.int (nI n)), some (.int (nI k)), some (.int (nI m)), some (.int (bo1 s)), some (.int (nI i))] [] σ = some (.inl (some (.int (nI (wrd B q n rest k m s))), σ)) := by
    intro rest
    have hl := strW_len
    induction rest with
    | nil =>
      intro i k m s h1 h2 h3
      have : strW.length ≤ i := List.drop_eq_nil_iff.mp h1
      rw [s139_18, oleT this (by omega), cond_true]
      rfl
    | cons c rest ih =>
      intro i k m s h1 h2 h3
      have hi : i < strW.length := by
        refine Nat.lt_of_not_le (fun w => ?_)
        rw [List.drop_eq_nil_iff.mpr w] at h1; cases h1
      have hc : strW.getD i 0 = c := by
        rw [List.getD_eq_getElem?_getD, List.getElem?_eq_getElem hi]
        rw [List.drop_eq_getElem_cons hi] at h1
        injection h1
      have hr : strW.drop (i + 1) = rest := by
        rw [List.drop_eq_getElem_cons hi] at h1
        injection h1
      have hc2 : c ≤ 255 := by
        have := List.all_eq_true.mp strW_all c (by rw [← hc, List.getD_eq_getElem?_getD, List.getElem?_eq_getElem hi]; exact List.getElem_mem hi)
        exact Nat.le_of_ble_eq_true this
      have h1' := fun k m s (hm : m ≤ i + 1) => ih (i + 1) k m s hr (by omega) hm
      rw [s139_18, oleF hi (by omega), cond_false, inbT hi (by omega), cond_true, cond_true, nI_clamp (by omega), hc, Oeb (by omega) (by decide), bo1_0, nI_add, nI_add, nI_add]
      show _ = (some (.inl (some (.int (nI (bif Nat.beq c 32 then (bif s && Nat.beq m n then k else wrd B q n rest (k + 1) 0 true) else wrd B q n rest k (m + 1) (s && Nat.blt m n && Nat.beq (B (q + m)) c)))), σ)) : Option PO)
      cases Nat.beq c 32
      · rw [cond_false, cond_false]
        cases s
        · exact h1' k (m + 1) false (by omega)
        · rw [show (!true) = false from rfl, cond_false, Olb (by omega) (by omega), Bool.true_and]
          by_cases w : m < n
          · rw [Nlf w, cond_false, Nat.blt_eq.mpr w, nI_add q m, inbT (by omega) (by decide), cond_true, nI_clamp (by omega), (hB m w).1, Oeb (by have := (hB m w).2; omega) (by omega), Bool.true_and]
            cases Nat.beq (B (q + m)) c
            · exact h1' k (m + 1) false (by omega)
            · exact h1' k (m + 1) true (by omega)
          · have b1 : Nat.blt m n = false := by
              cases u : Nat.blt m n
              · rfl
              · exact absurd (Nat.blt_eq.mp u) w
            rw [Nlt (Nat.le_of_not_lt w), cond_true, b1, Bool.false_and]
            exact h1' k (m + 1) false (by omega)
      · rw [cond_true, cond_true]
        cases s
        · exact h1' (k + 1) 0 true (by omega)
        · rw [show (!true) = false from rfl, cond_false, Oeb (by omega) (by omega), Bool.true_and]
          cases Nat.beq m n
          · exact h1' (k + 1) 0 true (by omega)
          · rfl
  rw [s139_0, nI_sub (by omega), Nat.add_sub_cancel_left]
  exact key strW 0 200 0 true rfl (Nat.zero_le _) (Nat.le_refl _)
theorem sidx_ok : ∀ b, b < 256 → ((decide (sidx strS 0 (((nI b).toUInt32 % 65536).toInt32) < nI 0)) = !(strS.contains b)) ∧ ((nI b).toUInt32 % 65536).toInt32 = nI b := by decide +kernel
/-- the first i tokens stand -/
def TokA (B : Nat → Nat) (N : Nat) (τ : PS) (i : Nat) : Prop := ∀ j, j < i → AI τ 14 j = nI (tkN B N (tpN B N j)) ∧ AI τ 15 j = nI (tpN B N j) ∧ AI τ 16 j = nI (nvN B N (tpN B N j))
theorem tok_s {τ : PS} {i : Nat} {k v : Int32} {p : Nat} (h : TokA B N τ i) (e1 : tpN B N i = p) (e2 : k = nI (tkN B N p)) (e3 : v = nI (nvN B N p)) : TokA B N (wFI (wAI (wAI (wAI τ 14 i k) 15 i (nI p)) 16 i v) 12 3 (nI (i + 1))) (i + 1) := by
  intro j hj
  rw [AI_ff, AI_ff, AI_ff]
  by_cases w : j = i
  · subst w
    rw [AI_n (Or.inl (by decide)), AI_n (Or.inl (by decide)), AI_q, AI_n (Or.inl (by decide)), AI_q, AI_q, e1]
    exact ⟨e2, rfl, e3⟩
  · rw [AI_n (Or.inr w), AI_n (Or.inr w), AI_n (Or.inr w), AI_n (Or.inr w), AI_n (Or.inr w), AI_n (Or.inr w), AI_n (Or.inr w), AI_n (Or.inr w), AI_n (Or.inr w)]
    exact h j (by omega)
theorem c135 {i : Nat} {a1 a2 a3 : Int32} (hd : 1 ≤ d) (h : FI σ 12 3 = nI i) (hi : i ≤ 400) : Run false d 135 0 [some (.ref 12), some (.int a1), some (.int a2), some (.int a3)] [] σ = some (.inl (none, wFI (wAI (wAI (wAI σ 14 i a1) 15 i a2) 16 i a3) 12 3 (nI (i + 1)))) := by
  obtain ⟨d, rfl⟩ := dS hd
  rw [s135_0, h, oleF (by omega) (by decide), cond_false, inbT (by omega) (by decide), cond_true, cond_true, cond_true, nI_clamp (by omega), nI_add]
theorem tok_off {τ : PS} {i : Nat} {k p v w : Int32} (h : Off σ τ) : Off σ (wFI (wAI (wAI (wAI τ 14 i k) 15 i p) 16 i v) 12 3 w) := off_fi (off_ai (off_ai (off_ai h rfl) rfl) rfl) rfl
theorem c134_lp (hd : 1 ≤ d) (hN : N ≤ 400) (hC : ∀ j, j < N → AI σ 13 j = nI (B j)) (hB : ∀ j, j < N → B j ≤ 255) : ∀ m a i τ z3 z4, N - a ≤ m → a ≤ N → skp B N a = tpN B N i → (∀ j, j < i → tpN B N j < N) → i ≤ a → FI τ 12 3 = nI i → TokA B N τ i → Off σ τ → ∃ τ' T, Off σ τ' ∧ T ≤ 400 ∧ FI τ' 12 3 = nI (T + 1) ∧ tpN B N T = N ∧ (∀ j, j < T → tpN B N j < N) ∧ TokA B N τ' (T + 1) ∧ Run false (d + 1) 134 7 [some (.ref 12), some (.int (nI N)), some (.int (nI a)), z3, z4] [] τ = some (.inl (none, τ')) := by
  intro m
  induction m with
  | zero =>
    intro a i τ z3 z4 h1 h2 h3 h4 h5 h6 h7 h8
    have ha : a = N := by omega
    subst ha
    have hs : skp B a a = a := by
      obtain ⟨u1, u2, -, -⟩ := skp_ok (B := B) (N := a) (p := a)
      have := u2 (Nat.le_refl _)
      omega
    have et : tpN B a i = a := h3.symm.trans hs
    refine ⟨_, i, tok_off h8, by omega, FI_q, et, h4, tok_s (k := nI 301) (v := nI 0) h7 et ?_ ?_, ?_⟩
    · unfold tkN; rw [if_pos (Nat.le_refl _)]
    · unfold nvN; rw [if_neg (fun w => Nat.lt_irrefl _ w.1)]
    · rw [s134_7, oleT (Nat.le_refl _) (by omega), cond_true, c135 hd h6 (by omega), aft_n, s134_163]
  | succ m ih =>
    intro a i τ z3 z4 h1 h2 h3 h4 h5 h6 h7 h8
    by_cases ha : a < N
    case neg =>
      have ha : a = N := by omega
      subst ha
      have hs : skp B a a = a := by
        obtain ⟨u1, u2, -, -⟩ := skp_ok (B := B) (N := a) (p := a)
        have := u2 (Nat.le_refl _)
        omega
      have et : tpN B a i = a := h3.symm.trans hs
      refine ⟨_, i, tok_off h8, by omega, FI_q, et, h4, tok_s (k := nI 301) (v := nI 0) h7 et ?_ ?_, ?_⟩
      · unfold tkN; rw [if_pos (Nat.le_refl _)]
      · unfold nvN; rw [if_neg (fun w => Nat.lt_irrefl _ w.1)]
      · rw [s134_7, oleT (Nat.le_refl _) (by omega), cond_true, c135 hd h6 (by omega), aft_n, s134_163]
    case pos =>
      have e13 : AI τ 13 = AI σ 13 := offA h8 13 rfl
      have hb := hB a ha
      have hi4 : i ≤ 400 := by omega
      -- a token from a on, that ends at e
      have tokn : ∀ e k v z3 z4, a < e → e ≤ N → isSp (B a) = false → teN B N a = e → k = nI (tkN B N a) → v = nI (nvN B N a) → ∃ τ' T, Off σ τ' ∧ T ≤ 400 ∧ FI τ' 12 3 = nI (T + 1) ∧ tpN B N T = N ∧ (∀ j, j < T → tpN B N j < N) ∧ TokA B N τ' (T + 1) ∧ Run false (d + 1) 134 7 [some (.ref 12), some (.int (nI N)), some (.int (nI e)), z3, z4] [] (wFI (wAI (wAI (wAI τ 14 i k) 15 i (nI a)) 16 i v) 12 3 (nI (i + 1))) = some (.inl (none, τ')) := by
        intro e k v z3 z4 g1 g2 g3 g4 g5 g6
        have hs : skp B N a = a := spn_eq (by omega) (Nat.le_refl _) (fun i u1 u2 => by omega) (fun _ => g3) (Or.inr rfl)
        have et : tpN B N i = a := h3.symm.trans hs
        refine ih e (i + 1) _ z3 z4 (by omega) g2 ?_ (fun j hj => ?_) (by omega) FI_q (tok_s h7 et g5 g6) (tok_off h8)
        · show _ = skp B N (teN B N (tpN B N i))
          rw [et, g4]
        · rcases Nat.lt_or_ge j i with w | w
          · exact h4 j w
          · have : j = i := by omega
            subst this
            rw [et]; exact ha
      rw [s134_7, oleF ha (by omega), cond_false, inbT (by omega) (by decide), cond_true, nI_clamp (by omega), e13, hC a ha, nI_add, c136 (by omega) hb, aft_v, s134_30, bo1_0]
      cases hdg : isDg (B a)
      case true =>
        rw [show (!true) = false from rfl, cond_false]
        obtain ⟨a1, a2, a3, a4⟩ := dge_ok (B := B) (N := N) (p := a)
        have ae : a < dge B N a := by
          have := (te_ok (B := B) ha).1
          unfold teN at this
          rw [if_neg (by omega), if_pos hdg] at this
          exact this
        have aN := a2 h2
        have p1 : Run false (d + 1) 134 33 [some (.ref 12), some (.int (nI N)), some (.int (nI (a + 1))), some (.int (nI a)), some (.int (nI (B a)))] [] τ = Run false (d + 1) 134 33 [some (.ref 12), some (.int (nI N)), some (.int (nI (dge B N a))), some (.int (nI a)), some (.int (nI (B a)))] [] τ := by
          have := lpU (f := fun t => Run false (d + 1) 134 33 [some (.ref 12), some (.int (nI N)), some (.int (nI (a + 1 + t))), some (.int (nI a)), some (.int (nI (B a)))] [] τ) (n := dge B N a - (a + 1)) (fun t ht => by
            obtain ⟨u1, u2⟩ := a3 (a + 1 + t) (by omega) (by omega)
            show _ = Run false (d + 1) 134 33 [some (.ref 12), some (.int (nI N)), some (.int (nI (a + 1 + t + 1))), some (.int (nI a)), some (.int (nI (B a)))] [] τ
            rw [s134_33, oleF u1 (by omega), cond_false, inbT (by omega) (by decide), cond_true, nI_clamp (by omega), e13, hC _ u1, c136 (by omega) (hB _ u1), aft_v, s134_47, bo1_0, u2, show (!true) = false from rfl, cond_false, nI_add]) 0 (Nat.zero_le _)
          have e : a + 1 + (dge B N a - (a + 1)) = dge B N a := by omega
          rw [e] at this
          exact this
        have k8 := c138 (d := d) (σ := τ) (q := a) (B := B) (n := dge B N a - a) hd (by omega) (fun i hi => by
          obtain ⟨u1, u2⟩ := a3 (a + i) (by omega) (by omega)
          exact ⟨by rw [e13]; exact hC _ u1, u2⟩)
        rw [show a + (dge B N a - a) = dge B N a by omega] at k8
        have nsp : isSp (B a) = false := by
          have := dg_r hdg
          exact Nbf (by omega)
        obtain ⟨τ', T, r1, r2, r3, r4, r5, r6, r7⟩ := tokn (dge B N a) (nI 300) (nI (cvN B a (dge B N a - a))) (some (.int (nI a))) (some (.int (nI (B a)))) ae aN nsp (by unfold teN; rw [if_neg (by omega), if_pos hdg]) (by unfold tkN; rw [if_neg (by omega), if_pos hdg]) (by unfold nvN; rw [if_pos ⟨ha, hdg⟩])
        refine ⟨τ', T, r1, r2, r3, r4, r5, r6, ?_⟩
        have p2 : Run false (d + 1) 134 33 [some (.ref 12), some (.int (nI N)), some (.int (nI (dge B N a))), some (.int (nI a)), some (.int (nI (B a)))] [] τ = aft false (d + 1) 134 67 [some (.ref 12), some (.int (nI N)), some (.int (nI (dge B N a))), some (.int (nI a)), some (.int (nI (B a)))] [.int (nI a), .int (nI 300), .ref 12] (Run false d 138 0 [some (.ref 12), some (.int (nI a)), some (.int (nI (dge B N a))), none, none] [] τ) := by
          rw [s134_33]
          by_cases w : N ≤ dge B N a
          · rw [oleT w (by omega), cond_true]
          · rw [oleF (by omega) (by omega), cond_false, inbT (by omega) (by decide), cond_true, nI_clamp (by omega), e13, hC _ (by omega), c136 (by omega) (hB _ (by omega)), aft_v, s134_47, bo1_0, a4 (by omega), show (!false) = true from rfl, cond_true]
        rw [p1, p2, k8, aft_v, s134_67, c135 hd h6 hi4, aft_n, s134_70, s134_151]
        exact r7
      case false =>
        rw [show (!false) = true from rfl, cond_true, c137 (by omega) hb, aft_v, s134_78, bo1_0]
        cases hlt : isLt (B a)
        case true =>
          rw [show (!true) = false from rfl, cond_false]
          obtain ⟨a1, a2, a3, a4⟩ := lte_ok (B := B) (N := N) (p := a)
          have ae : a < lte B N a := by
            have := (te_ok (B := B) ha).1
            unfold teN at this
            rw [if_neg (by omega), if_neg (by rw [hdg]; decide), if_pos hlt] at this
            exact this
          have aN := a2 h2
          have p1 : Run false (d + 1) 134 81 [some (.ref 12), some (.int (nI N)), some (.int (nI (a + 1))), some (.int (nI a)), some (.int (nI (B a)))] [] τ = Run false (d + 1) 134 81 [some (.ref 12), some (.int (nI N)), some (.int (nI (lte B N a))), some (.int (nI a)), some (.int (nI (B a)))] [] τ := by
            have := lpU (f := fun t => Run false (d + 1) 134 81 [some (.ref 12), some (.int (nI N)), some (.int (nI (a + 1 + t))), some (.int (nI a)), some (.int (nI (B a)))] [] τ) (n := lte B N a - (a + 1)) (fun t ht => by
              obtain ⟨u1, u2⟩ := a3 (a + 1 + t) (by omega) (by omega)
              show _ = Run false (d + 1) 134 81 [some (.ref 12), some (.int (nI N)), some (.int (nI (a + 1 + t + 1))), some (.int (nI a)), some (.int (nI (B a)))] [] τ
              rw [s134_81, oleF u1 (by omega), cond_false, inbT (by omega) (by decide), cond_true, nI_clamp (by omega), e13, hC _ u1, c137 (by omega) (hB _ u1), aft_v, s134_95, bo1_0, u2, show (!true) = false from rfl, cond_false, nI_add]) 0 (Nat.zero_le _)
            have e : a + 1 + (lte B N a - (a + 1)) = lte B N a := by omega
            rw [e] at this
            exact this
          have k9 := c139 (d := d) (σ := τ) (q := a) (B := B) (n := lte B N a - a) hd (by omega) (fun i hi => by
            obtain ⟨u1, u2⟩ := a3 (a + i) (by omega) (by omega)
            exact ⟨by rw [e13]; exact hC _ u1, hB _ u1⟩)
          rw [show a + (lte B N a - a) = lte B N a by omega, wrd_code (fun i hi => (a3 (a + i) (by omega) (by omega)).2)] at k9
          have nsp : isSp (B a) = false := by
            have := lt_r hlt
            exact Nbf (by omega)
          have nd : ¬ isDg (B a) = true := by rw [hdg]; decide
          obtain ⟨τ', T, r1, r2, r3, r4, r5, r6, r7⟩ := tokn (lte B N a) (nI (wcode (wvN B N a))) (nI 0) (some (.int (nI a))) (some (.int (nI (B a)))) ae aN nsp (by unfold teN; rw [if_neg (by omega), if_neg nd, if_pos hlt]) (by unfold tkN; rw [if_neg (by omega), if_neg nd, if_pos hlt]) (by unfold nvN; rw [if_neg (fun w => nd w.2)])
          refine ⟨τ', T, r1, r2, r3, r4, r5, r6, ?_⟩
          have p2 : Run false (d + 1) 134 81 [some (.ref 12), some (.int (nI N)), some (.int (nI (lte B N a))), some (.int (nI a)), some (.int (nI (B a)))] [] τ = aft false (d + 1) 134 111 [some (.ref 12), some (.int (nI N)), some (.int (nI (lte B N a))), some (.int (nI a)), some (.int (nI (B a)))] [.ref 12] (Run false d 139 0 [some (.ref 12), some (.int (nI a)), some (.int (nI (lte B N a))), none, none, none, none, none] [] τ) := by
            rw [s134_81]
            by_cases w : N ≤ lte B N a
            · rw [oleT w (by omega), cond_true]
            · rw [oleF (by omega) (by omega), cond_false, inbT (by omega) (by decide), cond_true, nI_clamp (by omega), e13, hC _ (by omega), c137 (by omega) (hB _ (by omega)), aft_v, s134_95, bo1_0, a4 (by omega), show (!false) = true from rfl, cond_true]
          rw [p1, p2, k9, aft_v, s134_111, c135 hd h6 hi4, aft_n, s134_116, s134_151]
          exact r7
        case false =>
          rw [show (!false) = true from rfl, cond_true, Oeb (by omega) (by decide)]
          cases hsp : Nat.beq (B a) 32
          case true =>
            rw [cond_true, s134_151]
            refine ih (a + 1) i τ _ _ (by omega) (by omega) ?_ h4 (by omega) h6 h7 h8
            rw [← h3]
            refine skp_mid (by omega) ?_ h2
            obtain ⟨a1, a2, a3, a4⟩ := skp_ok (B := B) (N := N) (p := a)
            rcases Nat.lt_or_ge a (skp B N a) with w | w
            · omega
            · have e : skp B N a = a := by omega
              rw [e] at a4
              have : isSp (B a) = false := a4 ha
              unfold isSp at this
              rw [hsp] at this; cases this
          case false =>
            have nd : ¬ isDg (B a) = true := by rw [hdg]; decide
            have nl : ¬ isLt (B a) = true := by rw [hlt]; decide
            obtain ⟨x1, x2⟩ := sidx_ok (B a) (by omega)
            have x3 : obl (sidx strS 0 (((nI (B a)).toUInt32 % 65536).toInt32) < nI 0) = !(strS.contains (B a)) := by
              rw [← x1]
              by_cases w : sidx strS 0 (((nI (B a)).toUInt32 % 65536).toInt32) < nI 0
              · rw [obl_t w, decide_eq_true w]
              · rw [obl_f w, decide_eq_false w]
            rw [cond_false, x3, x2, inbT (by omega) (by decide), cond_true, c135 hd h6 hi4, c135 hd h6 hi4, aft_n, aft_n, s134_151, s134_151]
            have nv : nI 0 = nI (nvN B N a) := by unfold nvN; rw [if_neg (fun w => nd w.2)]
            have te : teN B N a = a + 1 := by unfold teN; rw [if_neg (by omega), if_neg nd, if_neg nl]
            cases hct : strS.contains (B a)
            · exact tokn (a + 1) (nI 302) (nI 0) _ _ (by omega) (by omega) hsp te (by unfold tkN; rw [if_neg (by omega), if_neg nd, if_neg nl, if_neg (by rw [hct]; decide)]) nv
            · exact tokn (a + 1) (nI (B a)) (nI 0) _ _ (by omega) (by omega) hsp te (by unfold tkN; rw [if_neg (by omega), if_neg nd, if_neg nl, if_pos hct]) nv
theorem c134 (hd : 2 ≤ d) (hN : N ≤ 400) (hC : ∀ j, j < N → AI σ 13 j = nI (B j)) (hB : ∀ j, j < N → B j ≤ 255) : ∃ τ' T, Off σ τ' ∧ T ≤ 400 ∧ FI τ' 12 3 = nI (T + 1) ∧ tpN B N T = N ∧ (∀ j, j < T → tpN B N j < N) ∧ TokA B N τ' (T + 1) ∧ Run false d 134 0 [some (.ref 12), some (.int (nI N)), none, none, none] [] σ = some (.inl (none, τ')) := by
  obtain ⟨d, rfl⟩ := dS (show 1 ≤ d by omega)
  rw [s134_0]
  exact c134_lp (by omega) hN hC hB N 0 0 (wFI σ 12 3 (nI 0)) none none (by omega) (Nat.zero_le _) rfl (fun j hj => absurd hj (by omega)) (Nat.le_refl _) FI_q (fun j hj => absurd hj (by omega)) (off_fi off_r rfl)
end TC
