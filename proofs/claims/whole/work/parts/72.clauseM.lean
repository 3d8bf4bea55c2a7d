/-! THE PURE PROOFS: clauses, the model -/
/-- what a clause changes -/
def MK (r c s : Nat) (σ τ : PS) : Prop := (∀ o k, ¬ (o = 85 ∧ 4 ≤ k ∧ k ≤ 8) → FI τ o k = FI σ o k) ∧ FL τ = FL σ ∧ AL τ = AL σ ∧ XX τ = XX σ ∧ (∀ o, ¬ (88 ≤ o ∧ o ≤ 95) → AI τ o = AI σ o) ∧ (∀ o j, 89 ≤ o → o ≤ 93 → j < c → AI τ o j = AI σ o j) ∧ (∀ j, j < s → AI τ 94 j = AI σ 94 j ∧ AI τ 95 j = AI σ 95 j) ∧ ∀ j, j ≠ r → AI τ 88 j = AI σ 88 j
def MKBad (r c s : Nat) (σ τ : PS) (k p : Nat) : Prop := MK r c s σ τ ∧ FI τ 85 5 = nI p ∧ FI τ 85 6 = nI k
noncomputable def bodyM (d k c : Nat) (τ : PS) : Option PO :=
  if k = 0 then aft false (d + 1) 194 137 [some (.ref 85), some (.int (nI k)), some (.int (nI c)), none, none] [] (Run false d 180 0 [some (.ref 85), some (.int (nI 61))] [] τ)
  else if k = 4 then aft false (d + 1) 194 153 [some (.ref 85), some (.int (nI k)), some (.int (nI c)), none, none] [] (Run false d 172 0 [some (.ref 85)] [] τ)
  else if k = 7 then aft false (d + 1) 194 188 [some (.ref 85), some (.int (nI k)), some (.int (nI c)), none, none] [] (Run false d 177 0 [some (.ref 85), none, none, none, none] [] τ)
  else aft false (d + 1) 194 296 [some (.ref 85), some (.int (nI k)), some (.int (nI c)), none, none] [.int (nI c), .ref 91] (Run false d 179 0 [some (.ref 85), some (.int (nI (loK k))), some (.int (nI (hiK k))), none, none, none] [] τ)
section MC
variable {B : Nat → Nat} {N q d r c s k p : Nat} {σ τ υ : PS} {rs : RS}
theorem mk_r : MK r c s σ σ := ⟨fun _ _ _ => rfl, rfl, rfl, rfl, fun _ _ => rfl, fun _ _ _ _ _ => rfl, fun _ _ => ⟨rfl, rfl⟩, fun _ _ => rfl⟩
theorem mk_t {c' s' : Nat} (h : MK r c s σ τ) (g : MK r c' s' τ υ) (hc : c ≤ c') (hs : s ≤ s') : MK r c s σ υ := ⟨fun o k a => (g.1 o k a).trans (h.1 o k a), g.2.1.trans h.2.1, g.2.2.1.trans h.2.2.1, g.2.2.2.1.trans h.2.2.2.1, fun o a => (g.2.2.2.2.1 o a).trans (h.2.2.2.2.1 o a), fun o j a b e => (g.2.2.2.2.2.1 o j a b (by omega)).trans (h.2.2.2.2.2.1 o j a b e), fun j a => ⟨(g.2.2.2.2.2.2.1 j (by omega)).1.trans (h.2.2.2.2.2.2.1 j a).1, (g.2.2.2.2.2.2.1 j (by omega)).2.trans (h.2.2.2.2.2.2.1 j a).2⟩, fun j a => (g.2.2.2.2.2.2.2 j a).trans (h.2.2.2.2.2.2.2 j a)⟩
theorem mk_mf (h : MF s σ τ) : MK r c s σ τ := ⟨h.1, h.2.1, h.2.2.1, h.2.2.2.1, fun o a => h.2.2.2.2.1 o (by omega) (by omega), fun o j a b e => by rw [h.2.2.2.2.1 o (by omega) (by omega)], h.2.2.2.2.2, fun j a => by rw [h.2.2.2.2.1 88 (by decide) (by decide)]⟩
theorem mk_w {o j : Nat} {v : Int32} (h : MK r c s σ τ) (ho : 89 ≤ o ∧ o ≤ 93) (hj : c ≤ j) : MK r c s σ (wAI τ o j v) := by
  refine mk_t h ⟨fun _ _ _ => rfl, rfl, rfl, rfl, fun o' a => ?_, fun o' j' a b e => ?_, fun j' a => ⟨?_, ?_⟩, fun j' a => ?_⟩ (Nat.le_refl c) (Nat.le_refl s)
  · funext i; rw [AI_n (by omega)]
  · rw [AI_n (by omega)]
  · rw [AI_n (by omega)]
  · rw [AI_n (by omega)]
  · rw [AI_n (by omega)]
theorem mk_88 {v : Int32} (h : MK r c s σ τ) : MK r c s σ (wAI τ 88 r v) := by
  refine mk_t h ⟨fun _ _ _ => rfl, rfl, rfl, rfl, fun o' a => ?_, fun o' j' a b e => ?_, fun j' a => ⟨?_, ?_⟩, fun j' a => ?_⟩ (Nat.le_refl c) (Nat.le_refl s)
  · funext i; rw [AI_n (by omega)]
  · rw [AI_n (by omega)]
  · rw [AI_n (by omega)]
  · rw [AI_n (by omega)]
  · rw [AI_n (by omega)]
theorem ma_w {s0 o q j a : Nat} {v : Int32} (h : MAt B N r s0 o q σ) (ha : a ≠ 86) : MAt B N r s0 o q (wAI σ a j v) := by
  obtain ⟨⟨h1, h1'⟩, h2, h3, h4, h5, h6, h7⟩ := h
  exact ⟨⟨h1, fun i hi => by rw [AI_n (Or.inl (fun e => ha e.symm))]; exact h1' i hi⟩, h2, h3, h4, h5, h6, h7⟩
theorem MB_mk (h : MB B N σ) (g : MK r c s σ τ) : MB B N τ := ⟨(g.1 85 3 (by omega)).trans h.1, fun j hj => by rw [g.2.2.2.2.1 86 (by omega)]; exact h.2 j hj⟩
theorem c193 (hd : 1 ≤ d) : Run false d 193 0 [some (.long (lN (wvN B N q))), none] [] σ = some (.inl (some (.int (if 210 ≤ tkN B N q ∧ tkN B N q ≤ 217 then nI (tkN B N q - 210) else -1)), σ)) := by
  obtain ⟨d, rfl⟩ := dS hd
  rw [s193_0, lg_w (k := 10) (by decide) (W := 6309) rfl, lg_w (k := 11) (by decide) (W := 672734388) rfl, lg_w (k := 12) (by decide) (W := 15558) rfl, lg_w (k := 13) (by decide) (W := 21487059) rfl, lg_w (k := 14) (by decide) (W := 2094) rfl, lg_w (k := 15) (by decide) (W := 12748404) rfl, lg_w (k := 16) (by decide) (W := 21571091) rfl, lg_w (k := 17) (by decide) (W := 16727147987) rfl]
  generalize tkN B N q = t
  by_cases h0 : t = 210
  · subst h0; rfl
  by_cases h1 : t = 211
  · subst h1; rfl
  by_cases h2 : t = 212
  · subst h2; rfl
  by_cases h3 : t = 213
  · subst h3; rfl
  by_cases h4 : t = 214
  · subst h4; rfl
  by_cases h5 : t = 215
  · subst h5; rfl
  by_cases h6 : t = 216
  · subst h6; rfl
  by_cases h7 : t = 217
  · subst h7; rfl
  rw [Nbf h0, Nbf h1, Nbf h2, Nbf h3, Nbf h4, Nbf h5, Nbf h6, Nbf h7, if_neg (by omega)]
  rfl
theorem c191 (hd : 1 ≤ d) : Run false d 191 0 [some (.long (lN (wvN B N q))), none] [] σ = some (.inl (some (.int (if 200 ≤ tkN B N q ∧ tkN B N q ≤ 204 then nI (tkN B N q - 200) else -1)), σ)) := by
  obtain ⟨d, rfl⟩ := dS hd
  rw [s191_0, lg_w (k := 0) (by decide) (W := 16826546) rfl, lg_w (k := 1) (by decide) (W := 7734899) rfl, lg_w (k := 2) (by decide) (W := 20782) rfl, lg_w (k := 3) (by decide) (W := 206221) rfl, lg_w (k := 4) (by decide) (W := 13951140) rfl]
  generalize tkN B N q = t
  by_cases h0 : t = 200
  · subst h0; rfl
  by_cases h1 : t = 201
  · subst h1; rfl
  by_cases h2 : t = 202
  · subst h2; rfl
  by_cases h3 : t = 203
  · subst h3; rfl
  by_cases h4 : t = 204
  · subst h4; rfl
  rw [Nbf (show t ≠ 200 + 0 from h0), Nbf (show t ≠ 200 + 1 from h1), Nbf (show t ≠ 200 + 2 from h2), Nbf (show t ≠ 200 + 3 from h3), Nbf (show t ≠ 200 + 4 from h4), if_neg (by omega)]
  rfl
/-- a sort -/
theorem c192 {s0 : Nat} (hd : 3 ≤ d) (hN : N ≤ 400) (hB : ∀ j, j < N → B j ≤ 255) (h : MAt B N r s0 0 q σ) : ∃ τ, (if 200 ≤ tkN B N q ∧ tkN B N q ≤ 204 then MF (400 * r + s0) σ τ ∧ MAt B N r s0 0 (nxN B N q) τ else Bd (400 * r + s0) σ τ 1 q) ∧ Run false d 192 0 [some (.ref 85), none] [] σ = some (.inl (some (.int (if 200 ≤ tkN B N q ∧ tkN B N q ≤ 204 then nI (tkN B N q - 200) else -1)), τ)) := by
  obtain ⟨d, rfl⟩ := dS (show 1 ≤ d by omega)
  obtain ⟨τ1, a1, a2, a3, a4⟩ := m177 (d := d) (by omega) hN hB h
  have e5 : FI τ1 85 5 = -1 := a2.2.1
  rw [s192_0, c172_t (by omega) h.2.1, aft_v, s192_4, z10, cond_false, a4, aft_v, s192_13, c191 (by omega), aft_v, s192_16]
  by_cases w : 200 ≤ tkN B N q ∧ tkN B N q ≤ 204
  · obtain ⟨k, hk⟩ : ∃ k, tkN B N q = 200 + k := ⟨tkN B N q - 200, by omega⟩
    obtain ⟨τ2, b1, b2, b3⟩ := m178 (d := d) (k := k) (by omega) hN hB a2 a3 (by omega) hk
    rw [if_pos w, obl_f (nI_m1n (by omega)), cond_false, s192_31, c172_t (by omega) e5, aft_v, s192_35, z10, cond_false, b3, aft_n, s192_42]
    refine ⟨τ2, ?_, rfl⟩
    rw [if_pos w]
    exact ⟨mf_t (mf_at a1) b1 (Nat.le_refl _), b2⟩
  · have b := bd_w (s := 400 * r + s0) (k := 1) (p := q) (mf_at (s := 400 * r + s0) a1)
    have hq := ma_le h
    rw [if_neg w, obl_t rfl, cond_true, a3, c173_t (by omega) e5, aft_n, s192_31, c172_f (by omega) b.2.1 (by omega), aft_v, s192_35, z00, cond_true, s192_42]
    refine ⟨_, ?_, rfl⟩
    rw [if_neg w]; exact b
/-- the end of a clause behind a fault -/
theorem mk_bd {s' j p : Nat} (h : MK r c s σ τ) (g : Bd s' τ υ j p) (hs : s ≤ s') : MKBad r c s σ υ j p := ⟨mk_t h (mk_mf g.1) (Nat.le_refl _) hs, g.2⟩
theorem bodyM_bad {j : Nat} (hd : 5 ≤ d) (hk : k ≤ 4) (hc : c < 176) (hp : p < 2 ^ 31) (h : MKBad r c s σ τ j p) : ∃ τ', MKBad r c s σ τ' j p ∧ bodyM d k c τ = some (.inl (none, τ')) := by
  obtain ⟨h1, h2, h3⟩ := h
  have fin : ∀ ρ : PS, MKBad r c s σ ρ j p → aft false (d + 1) 194 313 [some (.ref 85), some (.int (nI k)), some (.int (nI c)), none, none] [] (Run false d 180 0 [some (.ref 85), some (.int (nI 59))] [] ρ) = some (.inl (none, ρ)) := fun ρ hρ => by
    rw [m180_b (by omega) hρ.2.1 hp, aft_n, s194_313]
  unfold bodyM
  by_cases k0 : k = 0
  · rw [if_pos k0, m180_b (by omega) h2 hp, aft_n, s194_137, m187_bd (by omega) h2 hp, aft_n, s194_141, inbT hc (by decide), cond_true, nI_clamp (by omega)]
    have hb : MKBad r c s σ (wAI τ 93 c (FI τ 85 8)) j p := ⟨mk_w h1 (by omega) (Nat.le_refl _), h2, h3⟩
    exact ⟨_, hb, fin _ hb⟩
  · rw [if_neg k0]
    by_cases k4 : k = 4
    · rw [if_pos k4, c172_f (by omega) h2 hp, aft_v, s194_153, z00, cond_true, inbT hc (by decide), cond_true, nI_clamp (by omega)]
      have hb : MKBad r c s σ (wAI τ 93 c (FI τ 85 8)) j p := ⟨mk_w h1 (by omega) (Nat.le_refl _), h2, h3⟩
      exact ⟨_, hb, fin _ hb⟩
    · rw [if_neg k4]
      have k7 : k ≠ 7 := by omega
      rw [if_neg k7, c179_b (by omega) h2 hp, aft_v, s194_296, inbT hc (by decide), cond_true, cond_true, nI_clamp (by omega)]
      have hb : MKBad r c s σ (wAI (wAI τ 91 c (nI 0)) 93 c (FI τ 85 8)) j p := ⟨mk_w (mk_w h1 (by omega) (Nat.le_refl _)) (by omega) (Nat.le_refl _), h2, h3⟩
      exact ⟨_, hb, fin _ hb⟩
end MC
