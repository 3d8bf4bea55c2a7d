/-! THE PURE PROOFS: whole clauses, the model -/
def MG (c s : Nat) (σ τ : PS) : Prop := (∀ o k, ¬ (o = 85 ∧ 4 ≤ k ∧ k ≤ 8) → FI τ o k = FI σ o k) ∧ FL τ = FL σ ∧ AL τ = AL σ ∧ XX τ = XX σ ∧ (∀ o, o ≠ 91 → o ≠ 93 → o ≠ 94 → o ≠ 95 → AI τ o = AI σ o) ∧ (∀ o j, o = 91 ∨ o = 93 → j ≠ c → AI τ o j = AI σ o j) ∧ ∀ j, j < s → AI τ 94 j = AI σ 94 j ∧ AI τ 95 j = AI σ 95 j
noncomputable def mEnd (d k c : Nat) (z3 z4 : Option Value) (ρ : PS) : Option PO := aft false (d + 1) 194 313 [some (.ref 85), some (.int (nI k)), some (.int (nI c)), z3, z4] [] (Run false d 180 0 [some (.ref 85), some (.int (nI 59))] [] ρ)
def MPre (B : Nat → Nat) (N r c s0 d k : Nat) (τ : PS) : RC → Prop
  | Sum.inl (q3, num, cs) => ∃ ρ z3 z4, MG c (400 * r + s0) τ ρ ∧ MAt B N r (s0 + cs.length) 0 q3 ρ ∧ (k = 0 ∨ k = 4 ∨ AI ρ 91 c = nI num) ∧ AI ρ 93 c = nI (s0 + cs.length) ∧ CodeM ρ (400 * r + s0) cs ∧ bodyM d k c τ = mEnd d k c z3 z4 ρ
  | Sum.inr (j, p) => ∃ ρ z3 z4, MG c (400 * r + s0) τ ρ ∧ FI ρ 85 5 = nI p ∧ FI ρ 85 6 = nI j ∧ p ≤ N ∧ bodyM d k c τ = mEnd d k c z3 z4 ρ
def MBo (B : Nat → Nat) (N r c s0 d k : Nat) (τ ρ : PS) : RC → Prop
  | Sum.inl (q4, num, cs) => MG c (400 * r + s0) τ ρ ∧ MAt B N r (s0 + cs.length) 0 q4 ρ ∧ (k = 0 ∨ k = 4 ∨ AI ρ 91 c = nI num) ∧ AI ρ 93 c = nI (s0 + cs.length) ∧ CodeM ρ (400 * r + s0) cs ∧ bodyM d k c τ = some (.inl (none, ρ))
  | Sum.inr (j, p) => MG c (400 * r + s0) τ ρ ∧ FI ρ 85 5 = nI p ∧ FI ρ 85 6 = nI j ∧ bodyM d k c τ = some (.inl (none, ρ))
section MI
variable {B : Nat → Nat} {N q d r c s k p n s0 : Nat} {σ τ υ ρ : PS} {rs : RS} {z3 z4 : Option Value}
theorem mg_r : MG c s σ σ := ⟨fun _ _ _ => rfl, rfl, rfl, rfl, fun _ _ _ _ _ => rfl, fun _ _ _ _ => rfl, fun _ _ => ⟨rfl, rfl⟩⟩
theorem mg_t {s' : Nat} (h : MG c s σ τ) (g : MG c s' τ υ) (hs : s ≤ s') : MG c s σ υ := ⟨fun o k a => (g.1 o k a).trans (h.1 o k a), g.2.1.trans h.2.1, g.2.2.1.trans h.2.2.1, g.2.2.2.1.trans h.2.2.2.1, fun o a b e f => (g.2.2.2.2.1 o a b e f).trans (h.2.2.2.2.1 o a b e f), fun o j a b => (g.2.2.2.2.2.1 o j a b).trans (h.2.2.2.2.2.1 o j a b), fun j a => ⟨(g.2.2.2.2.2.2 j (by omega)).1.trans (h.2.2.2.2.2.2 j a).1, (g.2.2.2.2.2.2 j (by omega)).2.trans (h.2.2.2.2.2.2 j a).2⟩⟩
theorem mg_mf (h : MF s σ τ) : MG c s σ τ := ⟨h.1, h.2.1, h.2.2.1, h.2.2.2.1, fun o _ _ a b => h.2.2.2.2.1 o a b, fun o j a b => by rw [h.2.2.2.2.1 o (by omega) (by omega)], h.2.2.2.2.2⟩
theorem mg_w {o : Nat} {v : Int32} (ho : o = 91 ∨ o = 93) : MG c s σ (wAI σ o c v) := ⟨fun _ _ _ => rfl, rfl, rfl, rfl, fun o' a b e f => by
  funext j
  rw [AI_n (by omega)], fun o' j a b => by rw [AI_n (Or.inr b)], fun j a => ⟨by rw [AI_n (by omega)], by rw [AI_n (by omega)]⟩⟩
theorem mk_mg (h : MG c s σ τ) : MK r c s σ τ := ⟨h.1, h.2.1, h.2.2.1, h.2.2.2.1, fun o a => h.2.2.2.2.1 o (by omega) (by omega) (by omega) (by omega), fun o j a b e => by
  by_cases w : o = 91 ∨ o = 93
  · exact h.2.2.2.2.2.1 o j w (by omega)
  · rw [h.2.2.2.2.1 o (by omega) (by omega) (by omega) (by omega)], h.2.2.2.2.2.2, fun j a => by rw [h.2.2.2.2.1 88 (by decide) (by decide) (by decide) (by decide)]⟩
theorem codeM_w {o j u : Nat} {v : Int32} {cs : List CD} (h : CodeM σ u cs) (ho : o ≠ 94 ∧ o ≠ 95) : CodeM (wAI σ o j v) u cs := fun i hi => by
  rw [AI_n (Or.inl (Ne.symm ho.1)), AI_n (Or.inl (Ne.symm ho.2))]; exact h i hi
theorem mEnd_b (hd : 2 ≤ d) (h : FI ρ 85 5 = nI p) (hp : p < 2 ^ 31) : mEnd d k c z3 z4 ρ = some (.inl (none, ρ)) := by
  unfold mEnd
  rw [m180_b hd h hp, aft_n, s194_313]
theorem mB_fin {rc : RC} (hd : 2 ≤ d) (hN : N ≤ 400) (hB : ∀ j, j < N → B j ≤ 255) (h : MPre B N r c s0 d k τ rc) : ∃ ρ, MBo B N r c s0 d k τ ρ (clR B N rc) := by
  rcases rc with ⟨q3, num, cs⟩ | ⟨j, p⟩
  · obtain ⟨ρ, z3, z4, h1, h2, h3, h4, h5, h6⟩ := h
    obtain ⟨τ2, e1, e2⟩ := m180 (d := d) (c := 59) hd hN hB (by decide) h2
    have e3 : mEnd d k c z3 z4 ρ = some (.inl (none, τ2)) := by
      unfold mEnd
      rw [e2, aft_n, s194_313]
    refine ⟨τ2, ?_⟩
    show MBo B N r c s0 d k τ τ2 (if tkN B N q3 = 59 then Sum.inl (nxN B N q3, num, cs) else Sum.inr (1, q3))
    by_cases v : tkN B N q3 = 59
    · rw [if_pos v] at e1 ⊢
      obtain ⟨e1, e1'⟩ := e1
      refine ⟨mg_t h1 (mg_mf e1) (by omega), e1', ?_, ?_, codeM_mf h5 e1 (by omega), h6.trans e3⟩
      · rw [e1.2.2.2.2.1 91 (by decide) (by decide)]; exact h3
      · rw [e1.2.2.2.2.1 93 (by decide) (by decide)]; exact h4
    · rw [if_neg v] at e1 ⊢
      exact ⟨mg_t h1 (mg_mf e1.1) (by omega), e1.2.1, e1.2.2, h6.trans e3⟩
  · obtain ⟨ρ, z3, z4, h1, h2, h3, h4, h6⟩ := h
    exact ⟨ρ, h1, h2, h3, h6.trans (mEnd_b hd h2 (by omega))⟩
theorem mB_ok (hd : dU 0 + 5 ≤ d) (hN : N ≤ 400) (hB : ∀ j, j < N → B j ≤ 255) (hk : k < 8) (hc : c < 176) (hs : s0 ≤ q) (h : MAt B N r s0 0 q τ) (hS : k = 0 → tkN B N q = 61 → MSim B N gS (dU 0 + 2) 0 (nxN B N q) rs ∧ RP N (nxN B N q) rs) (hE : k = 4 → tkN B N q = 220 → MSim B N gE (dU 0 + 5) 0 (nxN B N q) rs ∧ RP N (nxN B N q) rs) : ∃ ρ, MBo B N r c s0 d k τ ρ (clR B N (bdR B N k q rs)) := by
  have dU0 : dU 0 = 38 := rfl
  have hqN := ma_le h
  refine mB_fin (by omega) hN hB ?_
  unfold bdR
  by_cases k0 : k = 0
  · subst k0
    rw [if_pos rfl]
    obtain ⟨τ1, e1, e2⟩ := m180 (d := d) (c := 61) (by omega) hN hB (by decide) h
    have p0 : bodyM d 0 c τ = aft false (d + 1) 194 141 [some (.ref 85), some (.int (nI 0)), some (.int (nI c)), none, none] [] (Run false d 187 0 [some (.ref 85), none] [] τ1) := by
      unfold bodyM
      rw [if_pos rfl, e2, aft_n, s194_137]
    have pw : ∀ ρ, aft false (d + 1) 194 141 [some (.ref 85), some (.int (nI 0)), some (.int (nI c)), none, none] [] (some (.inl (none, ρ))) = mEnd d 0 c none none (wAI ρ 93 c (FI ρ 85 8)) := fun ρ => by
      rw [aft_n, s194_141, inbT hc (by decide), cond_true, nI_clamp (by omega)]; rfl
    by_cases w : tkN B N q = 61
    · rw [if_pos w] at e1 ⊢
      obtain ⟨hq, n1, n2⟩ := tk_nx w (by decide)
      obtain ⟨x1, x2⟩ := hS rfl w
      obtain ⟨τ2, b1, b2⟩ := x1 d r s0 τ1 (by omega) (by omega) e1.2
      have b3 : Run false d 187 0 [some (.ref 85), none] [] τ1 = some (.inl (none, τ2)) := b2
      rw [b3, pw] at p0
      rcases rs with ⟨q3, cs⟩ | ⟨j, p⟩
      · obtain ⟨f1, f2, f3⟩ := b1
        exact ⟨_, _, _, mg_t (mg_mf (mf_t e1.1 f1 (Nat.le_refl _))) (mg_w (Or.inr rfl)) (Nat.le_refl _), ma_w f2 (by decide), Or.inl rfl, by rw [AI_q]; exact (ma_steps f2).1, codeM_w f3 (by decide), p0⟩
      · obtain ⟨f1, f2, f3⟩ := b1
        exact ⟨_, _, _, mg_t (mg_mf (mf_t e1.1 f1 (Nat.le_refl _))) (mg_w (Or.inr rfl)) (Nat.le_refl _), f2, f3, x2.2.2, p0⟩
    · rw [if_neg w] at e1 ⊢
      rw [m187_bd (by omega) e1.2.1 (by omega), pw] at p0
      exact ⟨_, _, _, mg_t (mg_mf e1.1) (mg_w (Or.inr rfl)) (Nat.le_refl _), e1.2.1, e1.2.2, hqN, p0⟩
  rw [if_neg k0]
  by_cases k4 : k = 4
  · subst k4
    rw [if_pos rfl]
    obtain ⟨τ1, a1, a2, a3, a4⟩ := m177 (d := d) (by omega) hN hB h
    have p0 : bodyM d 4 c τ = (bif Nat.beq (tkN B N q) 220 then aft false (d + 1) 194 171 [some (.ref 85), some (.int (nI 4)), some (.int (nI c)), none, none] [] (Run false d 178 0 [some (.ref 85)] [] τ1) else mEnd d 4 c none none (wAI τ1 93 c (FI τ1 85 8))) := by
      unfold bodyM
      rw [if_neg (by decide), if_pos rfl, c172_t (by omega) h.2.1, aft_v, s194_153, z10, cond_false, a4, aft_v, s194_160, lg_w (k := 20) (by decide) (W := 294) rfl, inbT hc (by decide), cond_true, nI_clamp (by omega)]; rfl
    by_cases w : tkN B N q = 220
    · rw [Nbt w, cond_true] at p0
      rw [if_pos w]
      obtain ⟨hq, n1, n2⟩ := tk_nx w (by decide)
      obtain ⟨τ2, c1, c2, c3⟩ := m178 (d := d) (k := 20) (by omega) hN hB a2 a3 (by decide) w
      obtain ⟨x1, x2⟩ := hE rfl w
      obtain ⟨τ3, b1, b2⟩ := x1 d r s0 τ2 (by omega) (by omega) c2
      have b3 : Run false d 188 0 [some (.ref 85)] [] τ2 = some (.inl (none, τ3)) := b2
      have e0 := mf_t (mf_at (s := 400 * r + s0) a1) c1 (Nat.le_refl _)
      have p1 : bodyM d 4 c τ = mEnd d 4 c none none (wAI τ3 93 c (FI τ3 85 8)) := by
        rw [p0, c3, aft_n, s194_171, b3, aft_n, s194_175, inbT hc (by decide), cond_true, nI_clamp (by omega)]; rfl
      rcases rs with ⟨q3, cs⟩ | ⟨j, p⟩
      · obtain ⟨f1, f2, f3⟩ := b1
        exact ⟨_, _, _, mg_t (mg_mf (mf_t e0 f1 (Nat.le_refl _))) (mg_w (Or.inr rfl)) (Nat.le_refl _), ma_w f2 (by decide), Or.inr (Or.inl rfl), by rw [AI_q]; exact (ma_steps f2).1, codeM_w f3 (by decide), p1⟩
      · obtain ⟨f1, f2, f3⟩ := b1
        exact ⟨_, _, _, mg_t (mg_mf (mf_t e0 f1 (Nat.le_refl _))) (mg_w (Or.inr rfl)) (Nat.le_refl _), f2, f3, x2.2.2, p1⟩
    · rw [Nbf w, cond_false] at p0
      rw [if_neg w]
      exact ⟨_, _, _, mg_t (mg_mf (mf_at a1)) (mg_w (Or.inr rfl)) (Nat.le_refl _), ma_w a2 (by decide), Or.inr (Or.inl rfl), by rw [AI_q]; exact (ma_steps a2).1, codeM_nil, p0⟩
  rw [if_neg k4]
  by_cases k7 : k = 7
  · subst k7
    rw [if_pos rfl]
    obtain ⟨τ1, a1, a2, a3, a4⟩ := m177 (d := d) (by omega) hN hB h
    have e5 : FI τ1 85 5 = -1 := a2.2.1
    have pw : ∀ ρ, Run false (d + 1) 194 225 [some (.ref 85), some (.int (nI 7)), some (.int (nI c)), some (.long (lN (wvN B N q))), none] [] ρ = mEnd d 7 c (some (.long (lN (wvN B N q)))) none (wAI (wAI ρ 91 c (nI (if tkN B N q = 219 then 1 else 0))) 93 c (FI ρ 85 8)) := fun ρ => by
      rw [s194_225, lg_w (k := 19) (by decide) (W := 20510323891) rfl, inbT hc (by decide), cond_true, cond_true, cond_true, cond_true, nI_clamp (by omega)]
      by_cases v : tkN B N q = 219
      · rw [Nbt (show tkN B N q = 200 + 19 from v), if_pos v]; rfl
      · rw [Nbf (show ¬ tkN B N q = 200 + 19 from v), if_neg v]; rfl
    have p0 : bodyM d 7 c τ = (bif Nat.beq (tkN B N q) 218 then Run false (d + 1) 194 214 [some (.ref 85), some (.int (nI 7)), some (.int (nI c)), some (.long (lN (wvN B N q))), none] [] τ1 else (bif Nat.beq (tkN B N q) 219 then Run false (d + 1) 194 214 [some (.ref 85), some (.int (nI 7)), some (.int (nI c)), some (.long (lN (wvN B N q))), none] [] τ1 else Run false (d + 1) 194 214 [some (.ref 85), some (.int (nI 7)), some (.int (nI c)), some (.long (lN (wvN B N q))), none] [] (wFI (wFI τ1 85 5 (nI q)) 85 6 (nI 1)))) := by
      unfold bodyM
      rw [if_neg (by decide), if_neg (by decide), if_pos rfl, a4, aft_v, s194_188, lg_w (k := 18) (by decide) (W := 437622355) rfl, lg_w (k := 19) (by decide) (W := 20510323891) rfl, a3, c173_t (by omega) e5, aft_n]
    by_cases w : tkN B N q = 218 ∨ tkN B N q = 219
    · rw [if_pos w]
      obtain ⟨τ2, c1, c2, c3⟩ := m178 (d := d) (k := tkN B N q - 200) (by omega) hN hB a2 a3 (by omega) (by omega)
      have e0 := mf_t (mf_at (s := 400 * r + s0) a1) c1 (Nat.le_refl _)
      have p1 : bodyM d 7 c τ = Run false (d + 1) 194 214 [some (.ref 85), some (.int (nI 7)), some (.int (nI c)), some (.long (lN (wvN B N q))), none] [] τ1 := by
        rcases w with w | w
        · rw [p0, Nbt w, cond_true]
        · rw [p0, Nbt w, Nbf (by omega), cond_true, cond_false]
      have p2 : bodyM d 7 c τ = mEnd d 7 c (some (.long (lN (wvN B N q)))) none (wAI (wAI τ2 91 c (nI (if tkN B N q = 219 then 1 else 0))) 93 c (FI τ2 85 8)) := by
        rw [p1, s194_214, c172_t (by omega) e5, aft_v, s194_218, z10, cond_false, c3, aft_n, pw]
      refine ⟨_, _, _, mg_t (mg_t (mg_mf e0) (mg_w (Or.inl rfl)) (Nat.le_refl _)) (mg_w (Or.inr rfl)) (Nat.le_refl _), ma_w (ma_w c2 (by decide)) (by decide), Or.inr (Or.inr ?_), by rw [AI_q]; exact (ma_steps c2).1, codeM_nil, p2⟩
      rw [AI_n (by omega), AI_q]
      rcases w with w | w
      · rw [w, if_neg (by decide)]
      · rw [w, if_pos rfl]
    · rw [if_neg w]
      have b := bd_w (s := 400 * r + s0) (k := 1) (p := q) (mf_at (s := 400 * r + s0) a1)
      rw [Nbf (by omega), Nbf (by omega), cond_false, cond_false, s194_214, c172_f (by omega) b.2.1 (by omega), aft_v, s194_218, z00, cond_true, pw] at p0
      exact ⟨_, _, _, mg_t (mg_t (mg_mf b.1) (mg_w (Or.inl rfl)) (Nat.le_refl _)) (mg_w (Or.inr rfl)) (Nat.le_refl _), b.2.1, b.2.2, hqN, p0⟩
  rw [if_neg k7]
  have hlo : loK k ≤ 9999 := by unfold loK; split <;> decide
  have hhi : hiK k ≤ 9999 := by unfold hiK; split <;> (try split) <;> decide
  have p0 : ∀ v ρ, Run false d 179 0 [some (.ref 85), some (.int (nI (loK k))), some (.int (nI (hiK k))), none, none, none] [] τ = some (.inl (some (.int v), ρ)) → bodyM d k c τ = mEnd d k c none none (wAI (wAI ρ 91 c v) 93 c (FI ρ 85 8)) := fun v ρ e => by
    unfold bodyM
    rw [if_neg k0, if_neg k4, if_neg k7, e, aft_v, s194_296, inbT hc (by decide), cond_true, cond_true, nI_clamp (by omega)]; rfl
  have h' := h
  obtain ⟨hM, hf, ⟨a, ha1, ha2, ha3⟩, -⟩ := h'
  by_cases w : tkN B N q = 300
  · have hdg := tk_num.mp w
    obtain ⟨τ1, b1, v, b2, b3⟩ := c179_go (d := d) (σ := τ) (s := 400 * r + s0) (q := q) (lo := loK k) (hi := hiK k) (by omega) hN hM hB hf ha3 ha1 ha2 hdg hlo hhi
    have p1 := p0 _ _ b3
    by_cases x : loK k ≤ nvN B N q ∧ nvN B N q ≤ hiK k
    · rw [if_pos x] at b1
      rw [if_pos ⟨w, x⟩]
      have m2 : MAt B N r s0 0 (nxN B N q) τ1 := ma_at h b1 (te_ok hdg.1).2 rfl
      refine ⟨_, _, _, mg_t (mg_t (mg_mf (mf_at b1)) (mg_w (Or.inl rfl)) (Nat.le_refl _)) (mg_w (Or.inr rfl)) (Nat.le_refl _), ma_w (ma_w m2 (by decide)) (by decide), Or.inr (Or.inr ?_), by rw [AI_q]; exact (ma_steps m2).1, codeM_nil, p1⟩
      rw [AI_n (by omega), AI_q, b2 x]
    · rw [if_neg x] at b1
      rw [if_neg (fun y => x y.2), if_pos w]
      exact ⟨_, _, _, mg_t (mg_t (mg_mf b1.1) (mg_w (Or.inl rfl)) (Nat.le_refl _)) (mg_w (Or.inr rfl)) (Nat.le_refl _), b1.2.1, b1.2.2, hqN, p1⟩
  · rw [if_neg (fun y => w y.1), if_neg w]
    obtain ⟨τ1, b1, b3⟩ := c179_no (d := d) (σ := τ) (s := 400 * r + s0) (q := q) (lo := nI (loK k)) (hi := nI (hiK k)) (by omega) hN hM hB hf ha3 ha1 ha2 (fun y => w (tk_num.mpr y))
    have p1 := p0 _ _ b3
    exact ⟨_, _, _, mg_t (mg_t (mg_mf b1.1) (mg_w (Or.inl rfl)) (Nat.le_refl _)) (mg_w (Or.inr rfl)) (Nat.le_refl _), b1.2.1, b1.2.2, hqN, p1⟩
def MWh (B : Nat → Nat) (N r n s0 : Nat) (σ τ : PS) : RWh → Prop
  | Sum.inl (q4, c) => MK r (16 * r + n) (400 * r + s0) σ τ ∧ MAt B N r (s0 + c.2.2.2.length) 0 q4 τ ∧ AI τ 88 r = nI (n + 1) ∧ clMs τ r (16 * r + n) c s0
  | Sum.inr (k, p) => MKBad r (16 * r + n) (400 * r + s0) σ τ k p
theorem mW_ok (hd : dU 0 + 5 ≤ d) (hN : N ≤ 400) (hB : ∀ j, j < N → B j ≤ 255) (hs : s0 ≤ q) (h : MAt B N r s0 0 q σ) (h88 : AI σ 88 r = nI n) (hn : n < 16) (hR : bdH B N q rs) : ∃ τ, MWh B N r n s0 σ τ (whR B N q rs) ∧ Run false (d + 1) 194 0 [some (.ref 85), none, none, none, none] [] σ = some (.inl (none, τ)) := by
  have dU0 : dU 0 = 38 := rfl
  have hr := (ma_steps h).2.2
  obtain ⟨τ1, h1⟩ := mA_ok (d := d) (by omega) hN hB hs h h88 hn
  unfold whR
  cases e : hdK B N q with
  | inr x =>
    obtain ⟨k, p⟩ := x
    rw [e] at h1
    exact ⟨τ1, h1⟩
  | inl x =>
    obtain ⟨k, s, q2⟩ := x
    rw [e] at h1
    obtain ⟨a1, a2, a3, a4, a5, a6, a8⟩ := h1
    obtain ⟨g1, g2, g3, g4, g5⟩ := hdK_r e
    obtain ⟨hS, hE⟩ := hR k s q2 e
    obtain ⟨τ2, h2⟩ := mB_ok (d := d) (c := 16 * r + n) (rs := rs) hd hN hB g1 (by omega) (show s0 ≤ q2 by omega) a2 (fun x y => ⟨(hS x y).2.1, (hS x y).2.2.1.1⟩) (fun x y => ⟨(hE x y).2.1, (hE x y).2.2.1.1⟩)
    have hend := bd_end (B := B) (N := N) (rs := rs) g1 g5 (fun x y => (hS x y).2.2.1) (fun x y => (hE x y).2.2.1)
    refine ⟨τ2, ?_⟩
    show MWh B N r n s0 σ τ2 (match clR B N (bdR B N k q2 rs) with | Sum.inr x => Sum.inr x | Sum.inl (q4, num, cs) => Sum.inl (q4, (k, s, num, cs))) ∧ _
    cases e2 : clR B N (bdR B N k q2 rs) with
    | inr x =>
      obtain ⟨j, p⟩ := x
      rw [e2] at h2
      obtain ⟨b1, b2, b3, b4⟩ := h2
      exact ⟨⟨mk_t a1 (mk_mg b1) (Nat.le_refl _) (Nat.le_refl _), b2, b3⟩, a8.trans b4⟩
    | inl x =>
      obtain ⟨q4, num, cs⟩ := x
      rw [e2] at h2 hend
      obtain ⟨b1, b2, b3, b4, b5, b6⟩ := h2
      obtain ⟨c1, c2, c3⟩ := hend
      have q6 : ∀ o, o = 88 ∨ o = 89 ∨ o = 90 ∨ o = 92 → AI τ2 o = AI τ1 o := fun o ho => b1.2.2.2.2.1 o (by omega) (by omega) (by omega) (by omega)
      refine ⟨⟨mk_t a1 (mk_mg b1) (Nat.le_refl _) (Nat.le_refl _), b2, by rw [q6 88 (by omega)]; exact a3, ⟨by rw [q6 89 (by omega)]; exact a4, by rw [q6 90 (by omega)]; exact a5, b3, by show s0 + cs.length ≤ 400; omega, by rw [q6 92 (by omega)]; exact a6, b4, b5⟩⟩, a8.trans b6⟩
end MI
