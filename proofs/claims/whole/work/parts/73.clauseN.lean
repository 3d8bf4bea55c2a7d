/-! THE PURE PROOFS: clauses, the model: head and bodies -/
def MA (B : Nat → Nat) (N r n s0 d : Nat) (σ τ : PS) : RH → Prop
  | Sum.inl (k, s, q2) => MK r (16 * r + n) (400 * r + s0) σ τ ∧ MAt B N r s0 0 q2 τ ∧ AI τ 88 r = nI (n + 1) ∧ AI τ 89 (16 * r + n) = nI k ∧ AI τ 90 (16 * r + n) = nI (if k ≤ 4 then s else 0) ∧ AI τ 92 (16 * r + n) = nI s0 ∧ Run false (d + 1) 194 0 [some (.ref 85), none, none, none, none] [] σ = bodyM d k (16 * r + n) τ
  | Sum.inr (k, p) => MKBad r (16 * r + n) (400 * r + s0) σ τ k p ∧ Run false (d + 1) 194 0 [some (.ref 85), none, none, none, none] [] σ = some (.inl (none, τ))
section MH
variable {B : Nat → Nat} {N q d r c s k p n s0 : Nat} {σ τ υ : PS} {rs : RS}
/-- the head's writes -/
theorem m194_60 (hk : k < 8) (h9 : FI τ 85 9 = nI r) (hr : r ≤ 10) (h88 : AI τ 88 r = nI n) (hn : n < 16) : Run false (d + 1) 194 60 [some (.ref 85), some (.int (nI k)), none, none, none] [] τ = if k ≤ 4 then aft false (d + 1) 194 112 [some (.ref 85), some (.int (nI k)), some (.int (nI (16 * r + n))), none, none] [.int (nI (16 * r + n)), .ref 90] (Run false d 192 0 [some (.ref 85), none] [] (wAI (wAI τ 88 r (nI (n + 1))) 89 (16 * r + n) (nI k))) else bodyM d k (16 * r + n) (wAI (wAI (wAI (wAI τ 88 r (nI (n + 1))) 89 (16 * r + n) (nI k)) 90 (16 * r + n) (nI 0)) 92 (16 * r + n) (FI τ 85 8)) := by
  rw [s194_60, h9, inbT (by omega) (by decide), cond_true, cond_true, cond_true, nI_clamp (by omega), h88, nI_mul, nI_add, nI_add, inbT (by omega) (by decide), cond_true, cond_true, cond_true, nI_clamp (by omega)]
  match k, hk with
  | 0, _ => simp (disch := decide) only [oTr, oeqT, oeqF, oltT, oltF, cond_true, cond_false]; rfl
  | 1, _ => simp (disch := decide) only [oTr, oeqT, oeqF, oltT, oltF, cond_true, cond_false]; rfl
  | 2, _ => simp (disch := decide) only [oTr, oeqT, oeqF, oltT, oltF, cond_true, cond_false]; rfl
  | 3, _ => simp (disch := decide) only [oTr, oeqT, oeqF, oltT, oltF, cond_true, cond_false]; rfl
  | 4, _ => simp (disch := decide) only [oTr, oeqT, oeqF, oltT, oltF, cond_true, cond_false]; rfl
  | 5, _ => simp (disch := decide) only [oTr, oeqT, oeqF, oltT, oltF, cond_true, cond_false]; rfl
  | 6, _ => simp (disch := decide) only [oTr, oeqT, oeqF, oltT, oltF, cond_true, cond_false]; rfl
  | 7, _ => simp (disch := decide) only [oTr, oeqT, oeqF, oltT, oltF, cond_true, cond_false]; rfl
theorem m194_112 {v : Int32} (hk : k ≤ 4) (hc : c < 176) : aft false (d + 1) 194 112 [some (.ref 85), some (.int (nI k)), some (.int (nI c)), none, none] [.int (nI c), .ref 90] (some (.inl (some (.int v), τ))) = bodyM d k c (wAI (wAI τ 90 c v) 92 c (FI τ 85 8)) := by
  rw [aft_v, s194_112, inbT hc (by decide), cond_true, cond_true, nI_clamp (by omega)]
  match k, hk with
  | 0, _ => simp (disch := decide) only [oTr, oeqT, oeqF, oltT, oltF, cond_true, cond_false]; rfl
  | 1, _ => simp (disch := decide) only [oTr, oeqT, oeqF, oltT, oltF, cond_true, cond_false]; rfl
  | 2, _ => simp (disch := decide) only [oTr, oeqT, oeqF, oltT, oltF, cond_true, cond_false]; rfl
  | 3, _ => simp (disch := decide) only [oTr, oeqT, oeqF, oltT, oltF, cond_true, cond_false]; rfl
  | 4, _ => simp (disch := decide) only [oTr, oeqT, oeqF, oltT, oltF, cond_true, cond_false]; rfl
theorem ma_steps {o : Nat} (h : MAt B N r s o q σ) : FI σ 85 8 = nI s ∧ FI σ 85 9 = nI r ∧ r ≤ 10 := ⟨h.2.2.2.2.1, h.2.2.2.2.2.1, h.2.2.2.2.2.2⟩
theorem mA_ok (hd : 5 ≤ d) (hN : N ≤ 400) (hB : ∀ j, j < N → B j ≤ 255) (hs : s0 ≤ q) (h : MAt B N r s0 0 q σ) (h88 : AI σ 88 r = nI n) (hn : n < 16) : ∃ τ, MA B N r n s0 d σ τ (hdK B N q) := by
  have hqN := ma_le h
  obtain ⟨-, -, hr⟩ := ma_steps h
  obtain ⟨τ1, a1, a2, a3, a4⟩ := m177 (d := d) (by omega) hN hB h
  have e5 : FI τ1 85 5 = -1 := a2.2.1
  have e9 : FI τ1 85 9 = nI r := (ma_steps a2).2.1
  have e88 : AI τ1 88 r = nI n := by rw [a1.2.2.2.1]; exact h88
  have k1 : MK r (16 * r + n) (400 * r + s0) σ τ1 := mk_mf (mf_at a1)
  unfold hdK
  by_cases w : 210 ≤ tkN B N q ∧ tkN B N q ≤ 217
  · rw [if_pos w]
    obtain ⟨k, hk⟩ : ∃ k, tkN B N q = 210 + k := ⟨tkN B N q - 210, by omega⟩
    have ek : tkN B N q - 210 = k := by omega
    obtain ⟨τ2, b1, b2, b3⟩ := m178 (d := d) (k := 10 + k) (by omega) hN hB a2 a3 (by omega) (by omega)
    have f88 : AI τ2 88 r = nI n := by rw [b1.2.2.2.2.1 88 (by decide) (by decide)]; exact e88
    have k2 : MK r (16 * r + n) (400 * r + s0) σ τ2 := mk_t k1 (mk_mf b1) (Nat.le_refl _) (Nat.le_refl _)
    have g9 := (ma_steps b2).2.1
    have g8 := (ma_steps b2).1
    have p0 : Run false (d + 1) 194 0 [some (.ref 85), none, none, none, none] [] σ = Run false (d + 1) 194 60 [some (.ref 85), some (.int (nI k)), none, none, none] [] τ2 := by
      rw [s194_0, a4, aft_v, s194_4, c193 (by omega), aft_v, s194_7, if_pos w, ek, obl_f (nI_m1n (by omega)), cond_false, e9, inbT (by omega) (by decide), cond_true, nI_clamp (by omega), e88, oeqF (by omega) (by omega) (by decide), cond_false, s194_48, c172_t (by omega) e5, aft_v, s194_52, z10, cond_false, b3, aft_n]
    rw [m194_60 (by omega) g9 hr f88 hn] at p0
    rw [ek]
    have m3 : MAt B N r s0 0 (nxN B N q) (wAI (wAI τ2 88 r (nI (n + 1))) 89 (16 * r + n) (nI k)) := ma_w (ma_w b2 (by decide)) (by decide)
    have k3 : MK r (16 * r + n) (400 * r + s0) σ (wAI (wAI τ2 88 r (nI (n + 1))) 89 (16 * r + n) (nI k)) := mk_w (mk_88 k2) (by omega) (Nat.le_refl _)
    by_cases v : k ≤ 4
    · rw [if_pos (show tkN B N q ≤ 214 by omega)]
      rw [if_pos v] at p0
      obtain ⟨τ3, c1, c2⟩ := c192 (d := d) (by omega) hN hB m3
      by_cases v2 : 200 ≤ tkN B N (nxN B N q) ∧ tkN B N (nxN B N q) ≤ 204
      · rw [if_pos v2] at c1 c2 ⊢
        rw [c2, m194_112 v (by omega), (ma_steps c1.2).1] at p0
        refine ⟨_, mk_w (mk_w (mk_t k3 (mk_mf c1.1) (Nat.le_refl _) (Nat.le_refl _)) (by omega) (Nat.le_refl _)) (by omega) (Nat.le_refl _), ma_w (ma_w c1.2 (by decide)) (by decide), ?_, ?_, ?_, AI_q, p0⟩
        · rw [AI_n (by omega), AI_n (by omega), c1.1.2.2.2.2.1 88 (by decide) (by decide), AI_n (by omega), AI_q]
        · rw [AI_n (by omega), AI_n (by omega), c1.1.2.2.2.2.1 89 (by decide) (by decide), AI_q]
        · rw [AI_n (by omega), AI_q, if_pos v]
      · rw [if_neg v2] at c1 c2 ⊢
        rw [c2, m194_112 v (by omega)] at p0
        have kb : MKBad r (16 * r + n) (400 * r + s0) σ (wAI (wAI τ3 90 (16 * r + n) (-1)) 92 (16 * r + n) (FI τ3 85 8)) 1 (nxN B N q) := ⟨mk_w (mk_w (mk_t k3 (mk_mf c1.1) (Nat.le_refl _) (Nat.le_refl _)) (by omega) (Nat.le_refl _)) (by omega) (Nat.le_refl _), c1.2⟩
        have hp : nxN B N q < 2 ^ 31 := by have := ma_le b2; omega
        obtain ⟨τ4, d1, d2⟩ := bodyM_bad (d := d) (by omega) v (by omega) hp kb
        exact ⟨τ4, d1, p0.trans d2⟩
    · rw [if_neg (show ¬ tkN B N q ≤ 214 by omega)]
      rw [if_neg v, g8] at p0
      refine ⟨_, mk_w (mk_w k3 (by omega) (Nat.le_refl _)) (by omega) (Nat.le_refl _), ma_w (ma_w m3 (by decide)) (by decide), ?_, ?_, ?_, AI_q, p0⟩
      · rw [AI_n (by omega), AI_n (by omega), AI_n (by omega), AI_q]
      · rw [AI_n (by omega), AI_n (by omega), AI_q]
      · rw [AI_n (by omega), AI_q, if_neg v]
  · rw [if_neg w]
    have b := bd_w (s := 400 * r + s0) (k := 1) (p := q) (mf_at (s := 400 * r + s0) a1)
    refine ⟨_, mk_bd mk_r b (Nat.le_refl _), ?_⟩
    rw [s194_0, a4, aft_v, s194_4, c193 (by omega), aft_v, s194_7, if_neg w, obl_t rfl, cond_true, a3, c173_t (by omega) e5, aft_n, s194_22, s194_48, c172_f (by omega) b.2.1 (by omega), aft_v, s194_52, z00, cond_true]
/-- a clause more than there may be -/
theorem mA_full (hd : 4 ≤ d) (hN : N ≤ 400) (hB : ∀ j, j < N → B j ≤ 255) (h : MAt B N r s0 0 q σ) (h88 : AI σ 88 r = nI 16) : ∃ τ, MKBad r (16 * r + 16) (400 * r + s0) σ τ (if 210 ≤ tkN B N q ∧ tkN B N q ≤ 217 then 3 else 1) q ∧ Run false (d + 1) 194 0 [some (.ref 85), none, none, none, none] [] σ = some (.inl (none, τ)) := by
  have hqN := ma_le h
  obtain ⟨-, -, hr⟩ := ma_steps h
  obtain ⟨τ1, a1, a2, a3, a4⟩ := m177 (d := d) (by omega) hN hB h
  have e5 : FI τ1 85 5 = -1 := a2.2.1
  have e9 : FI τ1 85 9 = nI r := (ma_steps a2).2.1
  have e88 : AI τ1 88 r = nI 16 := by rw [a1.2.2.2.1]; exact h88
  by_cases w : 210 ≤ tkN B N q ∧ tkN B N q ≤ 217
  · rw [if_pos w]
    have b := bd_w (s := 400 * r + s0) (k := 3) (p := q) (mf_at (s := 400 * r + s0) a1)
    refine ⟨_, mk_bd mk_r b (Nat.le_refl _), ?_⟩
    rw [s194_0, a4, aft_v, s194_4, c193 (by omega), aft_v, s194_7, if_pos w, obl_f (nI_m1n (by omega)), cond_false, e9, inbT (by omega) (by decide), cond_true, nI_clamp (by omega), e88, oeqT rfl, cond_true, a3, c173_t (by omega) e5, aft_n, s194_48, c172_f (by omega) b.2.1 (by omega), aft_v, s194_52, z00, cond_true]
  · rw [if_neg w]
    have b := bd_w (s := 400 * r + s0) (k := 1) (p := q) (mf_at (s := 400 * r + s0) a1)
    refine ⟨_, mk_bd mk_r b (Nat.le_refl _), ?_⟩
    rw [s194_0, a4, aft_v, s194_4, c193 (by omega), aft_v, s194_7, if_neg w, obl_t rfl, cond_true, a3, c173_t (by omega) e5, aft_n, s194_22, s194_48, c172_f (by omega) b.2.1 (by omega), aft_v, s194_52, z00, cond_true]
end MH
