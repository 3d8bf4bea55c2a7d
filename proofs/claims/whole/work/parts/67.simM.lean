/-! THE PURE PROOFS: reading, the model: units and tests -/
section UM
variable {B : Nat → Nat} {N q D o : Nat} {r1 r2 : RS}
/-! behind a fault nothing is read -/
theorem m185_bd {d p : Nat} {σ : PS} (hd : 2 ≤ d) (h : FI σ 85 5 = nI p) (hp : p < 2 ^ 31) : Run false d 185 0 [some (.ref 85), none, none, none] [] σ = some (.inl (none, σ)) := by
  obtain ⟨d, rfl⟩ := dS (show 1 ≤ d by omega)
  rw [s185_0, c172_f (by omega) h hp, aft_v, s185_4, z00, cond_true]
theorem m186_bd {d p : Nat} {σ : PS} (hd : 3 ≤ d) (h : FI σ 85 5 = nI p) (hp : p < 2 ^ 31) : Run false d 186 0 [some (.ref 85), none] [] σ = some (.inl (none, σ)) := by
  obtain ⟨d, rfl⟩ := dS (show 1 ≤ d by omega)
  rw [s186_0, m185_bd (by omega) h hp, aft_n, m186_st (by omega) h hp]
theorem m187_bd {d p : Nat} {σ : PS} (hd : 4 ≤ d) (h : FI σ 85 5 = nI p) (hp : p < 2 ^ 31) : Run false d 187 0 [some (.ref 85), none] [] σ = some (.inl (none, σ)) := by
  obtain ⟨d, rfl⟩ := dS (show 1 ≤ d by omega)
  rw [s187_0, m186_bd (by omega) h hp, aft_n, m187_st (by omega) h hp]
theorem m190_bd {d p : Nat} {σ : PS} (hd : 2 ≤ d) (h : FI σ 85 5 = nI p) (hp : p < 2 ^ 31) : Run false d 190 0 [some (.ref 85), none] [] σ = some (.inl (none, σ)) := by
  obtain ⟨d, rfl⟩ := dS (show 1 ≤ d by omega)
  rw [s190_0, c172_f (by omega) h hp, aft_v, s190_4, z00, cond_true]
theorem m189_bd {d p : Nat} {σ : PS} (hd : 3 ≤ d) (h : FI σ 85 5 = nI p) (hp : p < 2 ^ 31) : Run false d 189 0 [some (.ref 85)] [] σ = some (.inl (none, σ)) := by
  obtain ⟨d, rfl⟩ := dS (show 1 ≤ d by omega)
  rw [s189_0, m190_bd (by omega) h hp, aft_n, m189_st (by omega) h hp]
theorem m188_bd {d p : Nat} {σ : PS} (hd : 4 ≤ d) (h : FI σ 85 5 = nI p) (hp : p < 2 ^ 31) : Run false d 188 0 [some (.ref 85)] [] σ = some (.inl (none, σ)) := by
  obtain ⟨d, rfl⟩ := dS (show 1 ≤ d by omega)
  rw [s188_0, m189_bd (by omega) h hp, aft_n, m188_st (by omega) h hp]
/-! units -/
/-- up to what stands there -/
theorem u_hd {d rr s : Nat} {σ : PS} (hd : 2 ≤ d) (hN : N ≤ 400) (hB : ∀ j, j < N → B j ≤ 255) (hM : MAt B N rr s o q σ) : ∃ τ, At1 σ τ q ∧ MAt B N rr s o q τ ∧ FI τ 85 4 = nI q ∧ Run false (d + 1) 185 0 [some (.ref 85), none, none, none] [] σ = (bif isDg (chN B N q) then aft false (d + 1) 185 30 [some (.ref 85), some (.int (nI (chN B N q))), none, none] [.int (nI 0), .ref 85] (Run false d 179 0 [some (.ref 85), some (.int (nI 0)), some (.int (nI 9999)), none, none, none] [] τ) else (bif Nat.beq (tkN B N q) 40 then aft false (d + 1) 185 47 [some (.ref 85), some (.int (nI (chN B N q))), none, none] [] (Run false d 182 0 [some (.ref 85), some (.int (nI 40)), some (.int (nI 1))] [] τ) else aft false (d + 1) 185 62 [some (.ref 85), some (.int (nI (chN B N q))), none, none] [] (Run false d 177 0 [some (.ref 85), none, none, none, none] [] τ))) := by
  obtain ⟨τ1, a1, a2, a3, a4⟩ := m174 (d := d) (by omega) hN hB hM
  refine ⟨τ1, a1, a2, a3, ?_⟩
  rw [s185_0, c172_t (by omega) hM.2.1, aft_v, s185_4, z10, cond_false, a4, aft_v, s185_12, c176 (by omega) (ch_le hB), aft_v, s185_17, bo1_0, ch_b (c := 40) rfl hB]
  cases isDg (chN B N q) <;> rfl
theorem ch_dg : isDg (chN B N q) = true ↔ tkN B N q = 300 := by
  rw [tk_num]
  unfold chN
  by_cases w : q < N
  · rw [if_pos w]; exact ⟨fun e => ⟨w, e⟩, fun e => e.2⟩
  · rw [if_neg w]; exact ⟨fun e => (by cases e), fun e => absurd e.1 w⟩
theorem ch_nd (h : tkN B N q ≠ 300) : isDg (chN B N q) = false := by
  cases c : isDg (chN B N q)
  · rfl
  · exact absurd (ch_dg.mp c) h
theorem uM_num (hN : N ≤ 400) (hB : ∀ j, j < N → B j ≤ 255) (hD : 3 ≤ D) (ht : tkN B N q = 300) : MSim B N gU (D + 1) o q (if nvN B N q ≤ 9999 then rok (nxN B N q) [(0, nvN B N q)] else rbad 2 q) := by
  intro d rr s σ hd hs hM
  obtain ⟨d, rfl⟩ := dS (show 1 ≤ d by omega)
  have hdg := tk_num.mp ht
  have hqN := ma_le hM
  obtain ⟨τ1, a1, a2, a3, a4⟩ := u_hd (d := d) (by omega) hN hB hM
  obtain ⟨τ2, b1, v, b2, b3⟩ := c179_go (d := d) (σ := τ1) (s := 400 * rr + s) (q := q) (lo := 0) (hi := 9999) (by omega) hN a2.1 hB a2.2.1 a3 hqN (ma_self hM) hdg (by decide) (by decide)
  show ∃ τ, _ ∧ Run false (d + 1) 185 0 [some (.ref 85), none, none, none] [] σ = _
  rw [a4, ch_dg.mpr ht, cond_true, b3, aft_v, s185_30]
  by_cases w : nvN B N q ≤ 9999
  · rw [if_pos ⟨Nat.zero_le _, w⟩] at b1
    rw [if_pos w, b2 ⟨Nat.zero_le _, w⟩]
    have m2 : MAt B N rr s o (nxN B N q) τ2 := ma_at a2 b1 (te_ok hdg.1).2 rfl
    obtain ⟨τ3, e1, e2, e3, e4, e5⟩ := m181 (d := d) (a := 0) (b := nvN B N q) (by omega) (show s < 400 by omega) m2
    rw [e5, aft_n, s185_33]
    exact ⟨τ3, mrs_ok (mf_t (mf_t (mf_at a1) (mf_at b1) (Nat.le_refl _)) e1 (Nat.le_refl _)) e2 (codeM_one e3 e4), rfl⟩
  · rw [if_neg (fun x => w x.2)] at b1
    rw [if_neg w, m181_b (by omega) b1.2.1 (by omega), aft_n, s185_33]
    exact ⟨τ2, mrs_bad (bd_t (mf_at a1) b1), rfl⟩
theorem lg_wn {k : Nat} (hk : k < 26) {W : Nat} (hW : WV.getD k 0 = W) (h : tkN B N q ≠ 200 + k) : obl (lg_cmp (lN (wvN B N q)) (lN W) = nI 0) = false := by
  rw [lg_w hk hW, Nbf h]
theorem lg_wy {k : Nat} (hk : k < 26) {W : Nat} (hW : WV.getD k 0 = W) (h : tkN B N q = 200 + k) : obl (lg_cmp (lN (wvN B N q)) (lN W) = nI 0) = true := by
  rw [lg_w hk hW, Nbt h]
/-- the name of a fact -/
theorem c184 {d : Nat} {σ : PS} (hd : 1 ≤ d) : Run false d 184 0 [some (.long (lN (wvN B N q))), none] [] σ = some (.inl (some (.int (if 205 ≤ tkN B N q ∧ tkN B N q ≤ 209 then nI (tkN B N q - 204) else -1)), σ)) := by
  obtain ⟨d, rfl⟩ := dS hd
  rw [s184_0, lg_w (k := 5) (by decide) (W := 824370) rfl, lg_w (k := 6) (by decide) (W := 11842035) rfl, lg_w (k := 7) (by decide) (W := 20186693) rfl, lg_w (k := 8) (by decide) (W := 7931315) rfl, lg_w (k := 9) (by decide) (W := 404526675) rfl]
  generalize tkN B N q = t
  by_cases h5 : t = 205
  · subst h5; rfl
  by_cases h6 : t = 206
  · subst h6; rfl
  by_cases h7 : t = 207
  · subst h7; rfl
  by_cases h8 : t = 208
  · subst h8; rfl
  by_cases h9 : t = 209
  · subst h9; rfl
  rw [Nbf h5, Nbf h6, Nbf h7, Nbf h8, Nbf h9, if_neg (by omega)]
  rfl
theorem uM_fact {k : Nat} (hN : N ≤ 400) (hB : ∀ j, j < N → B j ≤ 255) (hD : 3 ≤ D) (hk : 5 ≤ k ∧ k ≤ 9) (ht : tkN B N q = 200 + k) : MSim B N gU (D + 1) o q (rok (nxN B N q) [(k - 4, 0)]) := by
  intro d rr s σ hd hs hM
  obtain ⟨d, rfl⟩ := dS (show 1 ≤ d by omega)
  obtain ⟨hq, n1, n2⟩ := tk_nx ht (by omega)
  obtain ⟨τ1, a1, a2, a3, a4⟩ := u_hd (d := d) (by omega) hN hB hM
  obtain ⟨τ2, b1, b2, b3, b4⟩ := m177 (d := d) (by omega) hN hB a2
  obtain ⟨τ3, c1, c2, c3⟩ := m178 (d := d) (k := k) (by omega) hN hB b2 b3 (by omega) ht
  have hnm : (if 205 ≤ tkN B N q ∧ tkN B N q ≤ 209 then nI (tkN B N q - 204) else (-1 : Int32)) = nI (k - 4) := by rw [if_pos (by omega), show tkN B N q - 204 = k - 4 by omega]
  obtain ⟨τ4, e1, e2, e3, e4, e5⟩ := m181 (d := d) (a := k - 4) (b := 0) (by omega) (show s < 400 by omega) c2
  show ∃ τ, _ ∧ Run false (d + 1) 185 0 [some (.ref 85), none, none, none] [] σ = _
  rw [a4, ch_nd (by omega), cond_false, Nbf (show tkN B N q ≠ 40 by omega), cond_false, b4, aft_v, s185_62, lg_wn (k := 24) (by decide) (W := 13614) rfl (by omega), cond_false, lg_wn (k := 25) (by decide) (W := 13368) rfl (by omega), cond_false, c184 (by omega), hnm, aft_v, s185_137, obl_f (nI_m1n (show k - 4 < 2 ^ 31 by omega)), cond_false, c3, aft_n, s185_157, c184 (by omega), hnm, aft_v, s185_162, e5, aft_n, s185_166]
  exact ⟨τ4, mrs_ok (mf_t (mf_t (mf_t (mf_at a1) (mf_at b1) (Nat.le_refl _)) c1 (Nat.le_refl _)) e1 (Nat.le_refl _)) e2 (codeM_one e3 e4), rfl⟩
theorem uM_br (hN : N ≤ 400) (hB : ∀ j, j < N → B j ≤ 255) (hD : 4 ≤ D) (ho : o ≤ 8) (hn : tkN B N q ≠ 300 ∧ ¬ (205 ≤ tkN B N q ∧ tkN B N q ≤ 209) ∧ tkN B N q ≠ 224 ∧ tkN B N q ≠ 225) (h1 : tkN B N q = 40 → o < 8 → MSim B N gS D (o + 1) (nxN B N q) r1 ∧ RP N (nxN B N q) r1) : MSim B N gU (D + 1) o q (brR B N o q 40 41 r1) := by
  intro d rr s σ hd hs hM
  obtain ⟨d, rfl⟩ := dS (show 1 ≤ d by omega)
  obtain ⟨n1, n2, n3, n4⟩ := hn
  have hqN := ma_le hM
  obtain ⟨τ1, a1, a2, a3, a4⟩ := u_hd (d := d) (by omega) hN hB hM
  show ∃ τ, _ ∧ Run false (d + 1) 185 0 [some (.ref 85), none, none, none] [] σ = _
  rw [a4, ch_nd n1, cond_false]
  unfold brR
  by_cases w : tkN B N q = 40
  · obtain ⟨τ2, b1, b2⟩ := m182 (d := d) (c := 40) (by omega) hN hB rfl ho a2
    rw [Nbt w, cond_true, b2, aft_n, s185_47]
    by_cases w2 : o < 8
    · rw [if_pos ⟨w, w2⟩] at b1 ⊢
      obtain ⟨hq, m1, m2⟩ := tk_nx w (by decide)
      obtain ⟨x1, x2⟩ := h1 w w2
      obtain ⟨τ3, c1, c2⟩ := x1 d rr s τ2 (by omega) (by omega) b1.2
      have c3 : Run false d 187 0 [some (.ref 85), none] [] τ2 = some (.inl (none, τ3)) := c2
      have f12 := mf_t (mf_at (s := 400 * rr + s) a1) b1.1 (Nat.le_refl _)
      rw [c3, aft_n, s185_51]
      rcases r1 with ⟨q1, cs⟩ | ⟨k, p⟩
      · obtain ⟨c4, c5, c6⟩ := c1
        obtain ⟨y1, y2⟩ := x2
        obtain ⟨τ4, e1, e2⟩ := m183 (d := d) (c := 41) (by omega) hN hB rfl c5
        have eb : 400 * rr + (s + cs.length) = 400 * rr + s + cs.length := by omega
        rw [eb] at e1
        show ∃ τ, MRs B N rr s o σ τ (if tkN B N q1 = 41 then rok (nxN B N q1) cs else rbad 1 q1) ∧ _
        rw [e2, aft_n, s185_57]
        by_cases v : tkN B N q1 = 41
        · rw [if_pos v] at e1 ⊢
          exact ⟨τ4, mrs_ok (mf_t (mf_t f12 c4 (Nat.le_refl _)) e1.1 (by omega)) e1.2 (codeM_mf c6 e1.1 (Nat.le_refl _)), rfl⟩
        · rw [if_neg v] at e1 ⊢
          exact ⟨τ4, mrs_bad ⟨mf_t (mf_t f12 c4 (Nat.le_refl _)) e1.1 (by omega), e1.2⟩, rfl⟩
      · have c4 : Bd (400 * rr + s) σ τ3 k p := bd_t f12 c1
        obtain ⟨z1, z2, z3⟩ := x2
        obtain ⟨τ4, e1, e2⟩ := m183_b (d := d) (c := nI 41) (by omega) c4 (by omega)
        rw [e2, aft_n, s185_57]
        exact ⟨τ4, mrs_bad e1, rfl⟩
    · rw [if_neg (fun v => w2 v.2), if_pos w] at b1 ⊢
      have b3 : Bd (400 * rr + s) σ τ2 3 q := bd_t (mf_at a1) b1
      obtain ⟨τ4, e1, e2⟩ := m183_b (d := d) (c := nI 41) (by omega) b3 (by omega)
      rw [m187_bd (by omega) b3.2.1 (by omega), aft_n, s185_51, e2, aft_n, s185_57]
      exact ⟨τ4, mrs_bad e1, rfl⟩
  · obtain ⟨τ2, b1, b2, b3, b4⟩ := m177 (d := d) (by omega) hN hB a2
    have e5 : FI τ2 85 5 = -1 := b2.2.1
    have hnm : (if 205 ≤ tkN B N q ∧ tkN B N q ≤ 209 then nI (tkN B N q - 204) else (-1 : Int32)) = -1 := if_neg n2
    rw [if_neg (fun v => w v.1), if_neg w, Nbf w, cond_false, b4, aft_v, s185_62, lg_wn (k := 24) (by decide) (W := 13614) rfl n3, cond_false, lg_wn (k := 25) (by decide) (W := 13368) rfl n4, cond_false, c184 (by omega), hnm, aft_v, s185_137, obl_t rfl, cond_true, b3, c173_t (by omega) e5, aft_n, s185_150, s185_166]
    exact ⟨_, mrs_bad (bd_w (mf_t (mf_at a1) (mf_at b1) (Nat.le_refl _))), rfl⟩
/-- min and max: behind the word -/
theorem u_94b {d k p : Nat} {s : Nat} {σ0 σ : PS} {a1 : Int32} {b2 : Int64} (hd : 4 ≤ d) (h : Bd s σ0 σ k p) (hp : p < 2 ^ 31) : ∃ τ, Bd s σ0 τ k p ∧ Run false (d + 1) 185 94 [some (.ref 85), some (.int a1), some (.long b2), none] [] σ = some (.inl (none, τ)) := by
  obtain ⟨τ, e1, e2⟩ := m183_b (d := d) (c := nI 41) (by omega) h hp
  refine ⟨τ, e1, ?_⟩
  rw [s185_94, m180_b (by omega) h.2.1 hp, aft_n, s185_100, m187_bd (by omega) h.2.1 hp, aft_n, s185_104, e2, aft_n, s185_110, m181_b (by omega) e1.2.1 hp, m181_b (by omega) e1.2.1 hp]
  cases obl (lg_cmp b2 (lN 13614) = nI 0)
  · rw [cond_false, aft_n, s185_130, s185_166]
  · rw [cond_true, aft_n, s185_130, s185_166]
theorem u_104b {d k p : Nat} {s : Nat} {σ0 σ : PS} {a1 : Int32} {b2 : Int64} (hd : 4 ≤ d) (h : Bd s σ0 σ k p) (hp : p < 2 ^ 31) : ∃ τ, Bd s σ0 τ k p ∧ Run false (d + 1) 185 104 [some (.ref 85), some (.int a1), some (.long b2), none] [] σ = some (.inl (none, τ)) := by
  obtain ⟨τ, e1, e2⟩ := m183_b (d := d) (c := nI 41) (by omega) h hp
  refine ⟨τ, e1, ?_⟩
  rw [s185_104, e2, aft_n, s185_110, m181_b (by omega) e1.2.1 hp, m181_b (by omega) e1.2.1 hp]
  cases obl (lg_cmp b2 (lN 13614) = nI 0)
  · rw [cond_false, aft_n, s185_130, s185_166]
  · rw [cond_true, aft_n, s185_130, s185_166]
theorem uM_pair {t w : Nat} (hN : N ≤ 400) (hB : ∀ j, j < N → B j ≤ 255) (hD : 4 ≤ D) (ho : o ≤ 8) (ht : tkN B N q = t) (hw : (t = 224 ∧ w = 10) ∨ (t = 225 ∧ w = 11)) (h1 : tkN B N (nxN B N q) = 40 → o < 8 → MSim B N gS D (o + 1) (nxN B N (nxN B N q)) r1 ∧ RP N (nxN B N (nxN B N q)) r1) (h2 : ∀ q1 c1, tkN B N (nxN B N q) = 40 → o < 8 → r1 = Sum.inl (q1, c1) → tkN B N q1 = 44 → MSim B N gS D (o + 1) (nxN B N q1) r2 ∧ RP N (nxN B N q1) r2) : MSim B N gU (D + 1) o q (prR B N o (nxN B N q) w r1 r2) := by
  intro d rr s σ hd hs hM
  obtain ⟨d, rfl⟩ := dS (show 1 ≤ d by omega)
  have h24 : t = 224 ∨ t = 225 := by rcases hw with ⟨a, -⟩ | ⟨a, -⟩ <;> omega
  obtain ⟨hq, n1, n2⟩ := tk_nx ht (by omega)
  obtain ⟨τ1, a1, a2, a3, a4⟩ := u_hd (d := d) (by omega) hN hB hM
  obtain ⟨τ2, b1, b2, b3, b4⟩ := m177 (d := d) (by omega) hN hB a2
  obtain ⟨τ3, c1, c2, c3⟩ := m178 (d := d) (k := t - 200) (by omega) hN hB b2 b3 (by omega) (by omega)
  have f03 := mf_t (mf_t (mf_at (s := 400 * rr + s) a1) (mf_at b1) (Nat.le_refl _)) c1 (Nat.le_refl _)
  -- up to the bracket
  have p1 : Run false (d + 1) 185 0 [some (.ref 85), none, none, none] [] σ = aft false (d + 1) 185 90 [some (.ref 85), some (.int (nI (chN B N q))), some (.long (lN (wvN B N q))), none] [] (Run false d 182 0 [some (.ref 85), some (.int (nI 40)), some (.int (nI 1))] [] τ3) := by
    rw [a4, ch_nd (by omega), cond_false, Nbf (show tkN B N q ≠ 40 by omega), cond_false, b4, aft_v, s185_62]
    rcases h24 with rfl | rfl
    · rw [lg_wy (k := 24) (by decide) (W := 13614) rfl ht, cond_true, c3, aft_n, s185_83]
    · rw [lg_wn (k := 24) (by decide) (W := 13614) rfl (by omega), cond_false, lg_wy (k := 25) (by decide) (W := 13368) rfl ht, cond_true, c3, aft_n, s185_83]
  show ∃ τ, _ ∧ Run false (d + 1) 185 0 [some (.ref 85), none, none, none] [] σ = _
  obtain ⟨τ4, e1, e2⟩ := m182 (d := d) (c := 40) (by omega) hN hB rfl ho c2
  rw [p1, e2, aft_n, s185_90]
  unfold prR
  by_cases v : tkN B N (nxN B N q) = 40 ∧ o < 8
  · rw [if_pos v] at e1 ⊢
    obtain ⟨hq1, m1, m2⟩ := tk_nx v.1 (by decide)
    obtain ⟨x1, x2⟩ := h1 v.1 v.2
    obtain ⟨τ5, g1, g2⟩ := x1 d rr s τ4 (by omega) (by omega) e1.2
    have g3 : Run false d 187 0 [some (.ref 85), none] [] τ4 = some (.inl (none, τ5)) := g2
    have f04 := mf_t f03 e1.1 (Nat.le_refl _)
    rw [g3, aft_n]
    rcases r1 with ⟨q1, cs⟩ | ⟨k, p⟩
    · obtain ⟨g4, g5, g6⟩ := g1
      obtain ⟨y1, y2⟩ := x2
      obtain ⟨τ6, i1, i2⟩ := m180 (d := d) (c := 44) (by omega) hN hB rfl g5
      have eb : 400 * rr + (s + cs.length) = 400 * rr + s + cs.length := by omega
      rw [eb] at i1
      have f05 := mf_t f04 g4 (Nat.le_refl _)
      show ∃ τ, MRs B N rr s o σ τ (if tkN B N q1 = 44 then _ else rbad 1 q1) ∧ _
      rw [s185_94, i2, aft_n, s185_100]
      by_cases v2 : tkN B N q1 = 44
      · rw [if_pos v2] at i1 ⊢
        obtain ⟨hq2, k1, k2⟩ := tk_nx v2 (by decide)
        obtain ⟨x3, x4⟩ := h2 q1 cs v.1 v.2 rfl v2
        obtain ⟨τ7, j1, j2⟩ := x3 d rr (s + cs.length) τ6 (by omega) (by omega) i1.2
        have j3 : Run false d 187 0 [some (.ref 85), none] [] τ6 = some (.inl (none, τ7)) := j2
        have f06 := mf_t f05 i1.1 (by omega)
        rw [j3, aft_n]
        rcases r2 with ⟨q2, cs2⟩ | ⟨k, p⟩
        · obtain ⟨j4, j5, j6⟩ := j1
          obtain ⟨y3, y4⟩ := x4
          rw [eb] at j4 j6
          obtain ⟨τ8, l1, l2⟩ := m183 (d := d) (c := 41) (by omega) hN hB rfl j5
          have ec : 400 * rr + (s + cs.length + cs2.length) = 400 * rr + s + cs.length + cs2.length := by omega
          rw [ec] at l1
          have f07 := mf_t f06 j4 (by omega)
          show ∃ τ, MRs B N rr s o σ τ (if tkN B N q2 = 41 then _ else rbad 1 q2) ∧ _
          rw [s185_104, l2, aft_n, s185_110]
          by_cases v3 : tkN B N q2 = 41
          · rw [if_pos v3] at l1 ⊢
            obtain ⟨hq3, o1, o2⟩ := tk_nx v3 (by decide)
            obtain ⟨τ9, t1, t2, t3, t4, t5⟩ := m181 (d := d) (a := w) (b := 0) (by omega) (show s + cs.length + cs2.length < 400 by omega) l1.2
            rw [ec] at t1 t3 t4
            have el : s + (cs ++ (cs2 ++ [(w, (0 : Nat))])).length = s + cs.length + cs2.length + 1 := by rw [List.length_append, List.length_append]; show s + (cs.length + (cs2.length + 1)) = _; omega
            have f08 := mf_t f07 l1.1 (by omega)
            have cc : CodeM τ9 (400 * rr + s) (cs ++ (cs2 ++ [(w, 0)])) := codeM_app (codeM_mf (codeM_mf (codeM_mf (codeM_mf g6 i1.1 (Nat.le_refl _)) j4 (Nat.le_refl _)) l1.1 (by omega)) t1 (by omega)) (codeM_app (codeM_mf (codeM_mf j6 l1.1 (Nat.le_refl _)) t1 (by omega)) (codeM_one t3 t4))
            refine ⟨τ9, mrs_ok (mf_t f08 t1 (by omega)) (by rw [el]; exact t2) cc, ?_⟩
            rcases hw with ⟨rfl, rfl⟩ | ⟨rfl, rfl⟩
            · rw [lg_wy (k := 24) (by decide) (W := 13614) rfl ht, cond_true, t5, aft_n, s185_130, s185_166]
            · rw [lg_wn (k := 24) (by decide) (W := 13614) rfl (by omega), cond_false, t5, aft_n, s185_130, s185_166]
          · rw [if_neg v3] at l1 ⊢
            have l3 : Bd (400 * rr + s) σ τ8 1 q2 := ⟨mf_t f07 l1.1 (by omega), l1.2⟩
            refine ⟨τ8, mrs_bad l3, ?_⟩
            rw [m181_b (by omega) l3.2.1 (by omega), m181_b (by omega) l3.2.1 (by omega)]
            cases obl (lg_cmp (lN (wvN B N q)) (lN 13614) = nI 0)
            · rw [cond_false, aft_n, s185_130, s185_166]
            · rw [cond_true, aft_n, s185_130, s185_166]
        · have j4 : Bd (400 * rr + s) σ τ7 k p := ⟨mf_t f06 j1.1 (by omega), j1.2⟩
          obtain ⟨z1, z2, z3⟩ := x4
          obtain ⟨τ8, l1, l2⟩ := u_104b (d := d) (a1 := nI (chN B N q)) (b2 := lN (wvN B N q)) (by omega) j4 (by omega)
          exact ⟨τ8, mrs_bad l1, l2⟩
      · rw [if_neg v2] at i1 ⊢
        have i3 : Bd (400 * rr + s) σ τ6 1 q1 := ⟨mf_t f05 i1.1 (by omega), i1.2⟩
        obtain ⟨τ8, l1, l2⟩ := u_104b (d := d) (a1 := nI (chN B N q)) (b2 := lN (wvN B N q)) (by omega) i3 (by omega)
        rw [m187_bd (by omega) i3.2.1 (by omega), aft_n]
        exact ⟨τ8, mrs_bad l1, l2⟩
    · have g4 : Bd (400 * rr + s) σ τ5 k p := bd_t f04 g1
      obtain ⟨z1, z2, z3⟩ := x2
      obtain ⟨τ8, l1, l2⟩ := u_94b (d := d) (a1 := nI (chN B N q)) (b2 := lN (wvN B N q)) (by omega) g4 (by omega)
      exact ⟨τ8, mrs_bad l1, l2⟩
  · rw [if_neg v] at e1 ⊢
    have e3 : Bd (400 * rr + s) σ τ4 (if tkN B N (nxN B N q) = 40 then 3 else 1) (nxN B N q) := bd_t f03 e1
    obtain ⟨τ8, l1, l2⟩ := u_94b (d := d) (a1 := nI (chN B N q)) (b2 := lN (wvN B N q)) (by omega) e3 (by omega)
    rw [m187_bd (by omega) e3.2.1 (by omega), aft_n]
    exact ⟨τ8, mrs_bad l1, l2⟩
/-! tests -/
theorem t_hd {d rr s : Nat} {σ : PS} (hd : 2 ≤ d) (hN : N ≤ 400) (hB : ∀ j, j < N → B j ≤ 255) (hM : MAt B N rr s o q σ) : ∃ τ, At1 σ τ q ∧ MAt B N rr s o q τ ∧ Run false (d + 1) 190 0 [some (.ref 85), none] [] σ = (bif Nat.beq (tkN B N q) 91 then aft false (d + 1) 190 24 [some (.ref 85), none] [] (Run false d 182 0 [some (.ref 85), some (.int (nI 91)), some (.int (nI 1))] [] τ) else aft false (d + 1) 190 41 [some (.ref 85), none] [] (Run false d 177 0 [some (.ref 85), none, none, none, none] [] τ)) := by
  obtain ⟨τ1, a1, a2, a3, a4⟩ := m174 (d := d) (by omega) hN hB hM
  refine ⟨τ1, a1, a2, ?_⟩
  rw [s190_0, c172_t (by omega) hM.2.1, aft_v, s190_4, z10, cond_false, a4, aft_v, s190_12, ch_b (c := 91) rfl hB]
theorem tM_br (hN : N ≤ 400) (hB : ∀ j, j < N → B j ≤ 255) (hD : 4 ≤ D) (ho : o ≤ 8) (ht : tkN B N q = 91) (h1 : o < 8 → MSim B N gE D (o + 1) (nxN B N q) r1 ∧ RP N (nxN B N q) r1) : MSim B N gT (D + 1) o q (brR B N o q 91 93 r1) := by
  intro d rr s σ hd hs hM
  obtain ⟨d, rfl⟩ := dS (show 1 ≤ d by omega)
  have hqN := ma_le hM
  obtain ⟨τ1, a1, a2, a4⟩ := t_hd (d := d) (by omega) hN hB hM
  show ∃ τ, _ ∧ Run false (d + 1) 190 0 [some (.ref 85), none] [] σ = _
  obtain ⟨τ2, b1, b2⟩ := m182 (d := d) (c := 91) (by omega) hN hB rfl ho a2
  rw [a4, Nbt ht, cond_true, b2, aft_n, s190_24]
  unfold brR
  by_cases w2 : o < 8
  · rw [if_pos ⟨ht, w2⟩] at b1 ⊢
    obtain ⟨hq, m1, m2⟩ := tk_nx ht (by decide)
    obtain ⟨x1, x2⟩ := h1 w2
    obtain ⟨τ3, c1, c2⟩ := x1 d rr s τ2 (by omega) (by omega) b1.2
    have c3 : Run false d 188 0 [some (.ref 85)] [] τ2 = some (.inl (none, τ3)) := c2
    have f12 := mf_t (mf_at (s := 400 * rr + s) a1) b1.1 (Nat.le_refl _)
    rw [c3, aft_n, s190_28]
    rcases r1 with ⟨q1, cs⟩ | ⟨k, p⟩
    · obtain ⟨c4, c5, c6⟩ := c1
      obtain ⟨y1, y2⟩ := x2
      obtain ⟨τ4, e1, e2⟩ := m183 (d := d) (c := 93) (by omega) hN hB rfl c5
      have eb : 400 * rr + (s + cs.length) = 400 * rr + s + cs.length := by omega
      rw [eb] at e1
      show ∃ τ, MRs B N rr s o σ τ (if tkN B N q1 = 93 then rok (nxN B N q1) cs else rbad 1 q1) ∧ _
      rw [e2, aft_n, s190_34, s190_175]
      by_cases v : tkN B N q1 = 93
      · rw [if_pos v] at e1 ⊢
        exact ⟨τ4, mrs_ok (mf_t (mf_t f12 c4 (Nat.le_refl _)) e1.1 (by omega)) e1.2 (codeM_mf c6 e1.1 (Nat.le_refl _)), rfl⟩
      · rw [if_neg v] at e1 ⊢
        exact ⟨τ4, mrs_bad ⟨mf_t (mf_t f12 c4 (Nat.le_refl _)) e1.1 (by omega), e1.2⟩, rfl⟩
    · have c4 : Bd (400 * rr + s) σ τ3 k p := bd_t f12 c1
      obtain ⟨z1, z2, z3⟩ := x2
      obtain ⟨τ4, e1, e2⟩ := m183_b (d := d) (c := nI 93) (by omega) c4 (by omega)
      rw [e2, aft_n, s190_34, s190_175]
      exact ⟨τ4, mrs_bad e1, rfl⟩
  · rw [if_neg (fun v => w2 v.2), if_pos ht] at b1 ⊢
    have b3 : Bd (400 * rr + s) σ τ2 3 q := bd_t (mf_at a1) b1
    obtain ⟨τ4, e1, e2⟩ := m183_b (d := d) (c := nI 93) (by omega) b3 (by omega)
    rw [m188_bd (by omega) b3.2.1 (by omega), aft_n, s190_28, e2, aft_n, s190_34, s190_175]
    exact ⟨τ4, mrs_bad e1, rfl⟩
/-- not has three letters -/
theorem te_not (ht : tkN B N q = 223) : teN B N q = q + 3 := by
  obtain ⟨a, b, c⟩ := tk_lt (k := 23) (by decide) ht
  rw [te_lt (k := 23) (by decide) ht]
  have hv := (wv_iff (B := B) (N := N) (q := q) (k := 23) (by decide)).mpr ht
  have e14 : WV.getD 23 0 = 14836 := rfl
  rw [e14] at hv
  unfold wvN at hv
  obtain ⟨a1, a2, a3, a4⟩ := lte_ok (B := B) (N := N) (p := q)
  by_cases w : lte B N q - q ≤ 7
  · rw [if_pos w] at hv
    have e2 : wlN (fun i => [110, 111, 116].getD i 0) 0 3 = 14836 := by decide
    obtain ⟨i1, -⟩ := wl_inj (B := B) (q := q) (B' := fun i => [110, 111, 116].getD i 0) (q' := 0) (lte B N q - q) 3 w (by decide) (fun i hi => (a3 (q + i) (by omega) (by omega)).2) (fun i hi => by
      have : i = 0 ∨ i = 1 ∨ i = 2 := by omega
      rcases this with rfl | rfl | rfl <;> rfl) (hv.trans e2.symm)
    omega
  · rw [if_neg w] at hv
    cases hv
theorem m182n {d rr s : Nat} {σ : PS} (hN : N ≤ 400) (hd : 2 ≤ d) (ho : o ≤ 8) (ht : tkN B N q = 223) (hM : MAt B N rr s o q σ) (e4 : FI σ 85 4 = nI q) : ∃ τ, (if o < 8 then MF (400 * rr + s) σ τ ∧ MAt B N rr s (o + 1) (nxN B N q) τ else Bd (400 * rr + s) σ τ 3 q) ∧ Run false d 182 0 [some (.ref 85), some (.int (nI 0)), some (.int (nI 3))] [] σ = some (.inl (none, τ)) := by
  obtain ⟨d, rfl⟩ := dS (show 1 ≤ d by omega)
  have e5 : FI σ 85 5 = -1 := hM.2.1
  have e7 : FI σ 85 7 = nI o := hM.2.2.2.1
  have hqN := ma_le hM
  obtain ⟨hq, n1, n2⟩ := tk_nx ht (by decide)
  rw [s182_0, c172_t (by omega) e5, aft_v, s182_4, z10, cond_false, z00, cond_true, e7]
  by_cases w2 : o < 8
  · rw [oeqF (show o ≠ 8 by omega) (by omega) (by decide), cond_false, s182_50, c172_t (by omega) e5, aft_v, s182_54, z10, cond_false, e4, nI_add, e7, nI_add]
    have t5 : At1 σ (wFI σ 85 4 (nI (q + 3))) (q + 3) := at_w (at_r e4)
    have t3 := te_not ht
    have m5 : MAt B N rr s o (nxN B N q) (wFI σ 85 4 (nI (q + 3))) := ma_at hM t5 (by have := (te_ok (B := B) hq).2; omega) (by unfold nxN; rw [t3])
    refine ⟨_, ?_, rfl⟩
    rw [if_pos w2]
    obtain ⟨g1, g2, ⟨x, x1, x2, x3⟩, g4, g5, g6, g7⟩ := m5
    refine ⟨mf_w (mf_at t5) (by omega), MB_mf (s := 0) g1 (mf_w mf_r (by omega)), ?_, ⟨x, x1, x2, ?_⟩, FI_q, ?_, ?_, g7⟩
    · rw [FI_n (Or.inr (by decide))]; exact g2
    · rw [FI_n (Or.inr (by decide))]; exact x3
    · rw [FI_n (Or.inr (by decide))]; exact g5
    · rw [FI_n (Or.inr (by decide))]; exact g6
  · have o8 : o = 8 := by omega
    have b := bd_w (s := 400 * rr + s) (k := 3) (p := q) (mf_r (s := 400 * rr + s) (σ := σ))
    rw [oeqT o8, cond_true, e4, c173_t (by omega) e5, aft_n, s182_50, c172_f (by omega) b.2.1 (by omega), aft_v, s182_54, z00, cond_true]
    refine ⟨_, ?_, rfl⟩
    rw [if_neg w2]
    refine ⟨mf_w b.1 (by omega), ?_, ?_⟩
    · rw [FI_n (Or.inr (by decide))]; exact b.2.1
    · rw [FI_n (Or.inr (by decide))]; exact b.2.2
theorem tM_not (hN : N ≤ 400) (hB : ∀ j, j < N → B j ≤ 255) (hD : 4 ≤ D) (ho : o ≤ 8) (ht : tkN B N q = 223) (h1 : o < 8 → MSim B N gT D (o + 1) (nxN B N q) r1 ∧ RP N (nxN B N q) r1) : MSim B N gT (D + 1) o q (ntR o q r1) := by
  intro d rr s σ hd hs hM
  obtain ⟨d, rfl⟩ := dS (show 1 ≤ d by omega)
  have hqN := ma_le hM
  obtain ⟨τ1, a1, a2, a4⟩ := t_hd (d := d) (by omega) hN hB hM
  obtain ⟨τ1', v1, v2, v3, v4⟩ := m177 (d := d) (by omega) hN hB a2
  obtain ⟨τ2, b1, b2⟩ := m182n (d := d) hN (by omega) ho ht v2 v3
  have f01 := mf_t (mf_at (s := 400 * rr + s) a1) (mf_at v1) (Nat.le_refl _)
  show ∃ τ, _ ∧ Run false (d + 1) 190 0 [some (.ref 85), none] [] σ = _
  rw [a4, Nbf (show tkN B N q ≠ 91 by omega), cond_false, v4, aft_v, s190_41, lg_wy (k := 23) (by decide) (W := 14836) rfl ht, cond_true, b2, aft_n, s190_54]
  -- behind a fault
  have bad : ∀ τ k p, p < 2 ^ 31 → Bd (400 * rr + s) σ τ k p → ∃ τ', Bd (400 * rr + s) σ τ' k p ∧ Run false (d + 1) 190 58 [some (.ref 85), none] [] τ = some (.inl (none, τ')) := by
    intro τ k p hp hb
    have hb2 : Bd (400 * rr + s) σ (wFI τ 85 7 (FI τ 85 7 - nI 1)) k p := ⟨mf_w hb.1 (by omega), by rw [FI_n (Or.inr (by decide))]; exact hb.2.1, by rw [FI_n (Or.inr (by decide))]; exact hb.2.2⟩
    refine ⟨_, hb2, ?_⟩
    rw [s190_58, m181_b (by omega) hb2.2.1 hp, aft_n, s190_75, s190_175]
  unfold ntR
  by_cases w2 : o < 8
  · rw [if_pos w2] at b1 ⊢
    obtain ⟨hq, m1, m2⟩ := tk_nx ht (by decide)
    obtain ⟨x1, x2⟩ := h1 w2
    obtain ⟨τ3, c1, c2⟩ := x1 d rr s τ2 (by omega) (by omega) b1.2
    have c3 : Run false d 190 0 [some (.ref 85), none] [] τ2 = some (.inl (none, τ3)) := c2
    have f12 := mf_t f01 b1.1 (Nat.le_refl _)
    rw [c3, aft_n]
    rcases r1 with ⟨q1, cs⟩ | ⟨k, p⟩
    · obtain ⟨c4, c5, c6⟩ := c1
      obtain ⟨y1, y2⟩ := x2
      have eb : 400 * rr + (s + cs.length) = 400 * rr + s + cs.length := by omega
      have e7 : FI τ3 85 7 = nI (o + 1) := c5.2.2.2.1
      have m6 : MF (400 * rr + s + cs.length) τ3 (wFI τ3 85 7 (nI o)) := mf_w mf_r (by omega)
      have m5 : MAt B N rr (s + cs.length) o q1 (wFI τ3 85 7 (nI o)) := by
        obtain ⟨g1, g2, ⟨x, x1, x2, x3⟩, g4, g5, g6, g7⟩ := c5
        refine ⟨MB_mf (s := 0) g1 (mf_w mf_r (by omega)), ?_, ⟨x, x1, x2, ?_⟩, FI_q, ?_, ?_, g7⟩
        · rw [FI_n (Or.inr (by decide))]; exact g2
        · rw [FI_n (Or.inr (by decide))]; exact x3
        · rw [FI_n (Or.inr (by decide))]; exact g5
        · rw [FI_n (Or.inr (by decide))]; exact g6
      obtain ⟨τ4, e1, e2, e3, e4, e5⟩ := m181 (d := d) (a := 17) (b := 0) (by omega) (show s + cs.length < 400 by omega) m5
      rw [eb] at e1 e3 e4
      rw [s190_58, e7, nI_s1, e5, aft_n, s190_75, s190_175]
      have el : s + (cs ++ [((17 : Nat), (0 : Nat))]).length = s + cs.length + 1 := by rw [List.length_append]; rfl
      exact ⟨τ4, mrs_ok (mf_t (mf_t (mf_t f12 c4 (Nat.le_refl _)) m6 (by omega)) e1 (by omega)) (by rw [el]; exact e2) (codeM_app (codeM_mf (codeM_mf c6 m6 (Nat.le_refl _)) e1 (Nat.le_refl _)) (codeM_one e3 e4)), rfl⟩
    · have c4 : Bd (400 * rr + s) σ τ3 k p := bd_t f12 c1
      obtain ⟨z1, z2, z3⟩ := x2
      obtain ⟨τ4, e1, e2⟩ := bad τ3 k p (by omega) c4
      exact ⟨τ4, mrs_bad e1, e2⟩
  · rw [if_neg w2] at b1 ⊢
    have b3 : Bd (400 * rr + s) σ τ2 3 q := bd_t f01 b1
    obtain ⟨τ4, e1, e2⟩ := bad τ2 3 q (by omega) b3
    rw [m190_bd (by omega) b3.2.1 (by omega), aft_n]
    exact ⟨τ4, mrs_bad e1, e2⟩
theorem tM_cmp (hN : N ≤ 400) (hB : ∀ j, j < N → B j ≤ 255) (hD : 4 ≤ D) (hn : tkN B N q ≠ 223 ∧ tkN B N q ≠ 91) (h1 : MSim B N gS D o q r1) (hp1 : RP N q r1) (h2 : ∀ q1 c1, r1 = Sum.inl (q1, c1) → (tkN B N q1 = 60 ∨ tkN B N q1 = 62 ∨ tkN B N q1 = 61) → MSim B N gS D o (nxN B N q1) r2 ∧ RP N (nxN B N q1) r2) : MSim B N gT (D + 1) o q (cpR B N r1 r2) := by
  intro d rr s σ hd hs hM
  obtain ⟨d, rfl⟩ := dS (show 1 ≤ d by omega)
  obtain ⟨τ1, a1, a2, a4⟩ := t_hd (d := d) (by omega) hN hB hM
  obtain ⟨τ1', v1, v2, v3, v4⟩ := m177 (d := d) (by omega) hN hB a2
  have f01 := mf_t (mf_at (s := 400 * rr + s) a1) (mf_at v1) (Nat.le_refl _)
  obtain ⟨τ2, b1, b2⟩ := h1 d rr s τ1' (by omega) hs v2
  have b3 : Run false d 187 0 [some (.ref 85), none] [] τ1' = some (.inl (none, τ2)) := b2
  show ∃ τ, _ ∧ Run false (d + 1) 190 0 [some (.ref 85), none] [] σ = _
  rw [a4, Nbf hn.2, cond_false, v4, aft_v, s190_41, lg_wn (k := 23) (by decide) (W := 14836) rfl hn.1, cond_false, b3, aft_n, s190_82]
  -- behind a fault
  have bad : ∀ τ (c : Int32) k p, p < 2 ^ 31 → Bd (400 * rr + s) σ τ k p → Run false (d + 1) 190 125 [some (.ref 85), some (.int c)] [] τ = some (.inl (none, τ)) := by
    intro τ c k p hp hb
    rw [s190_125, c172_f (by omega) hb.2.1 hp, aft_v, s190_129, z00, cond_true, m187_bd (by omega) hb.2.1 hp, aft_n, s190_146, m181_b (by omega) hb.2.1 hp, m181_b (by omega) hb.2.1 hp, m181_b (by omega) hb.2.1 hp, aft_n, s190_175]
    cases obl (c = nI 60)
    · cases obl (c = nI 62) <;> rfl
    · rfl
  rcases r1 with ⟨q1, cs⟩ | ⟨k, p⟩
  · obtain ⟨b4, b5, b6⟩ := b1
    obtain ⟨y1, y2⟩ := hp1
    have f02 := mf_t f01 b4 (Nat.le_refl _)
    obtain ⟨τ3, c1, c2, c3, c4⟩ := m174 (d := d) (by omega) hN hB b5
    have eb : 400 * rr + (s + cs.length) = 400 * rr + s + cs.length := by omega
    have f03 := mf_t f02 (mf_at (s := 400 * rr + s + cs.length) c1) (by omega)
    rw [c172_t (by omega) b5.2.1, aft_v, s190_86, z10, cond_false, c4, aft_v, s190_93, ch_b (c := 60) rfl hB, ch_b (c := 62) rfl hB, ch_b (c := 61) rfl hB]
    show ∃ τ, MRs B N rr s o σ τ (if tkN B N q1 = 60 ∨ tkN B N q1 = 62 ∨ tkN B N q1 = 61 then _ else rbad 1 q1) ∧ _
    by_cases v : tkN B N q1 = 60 ∨ tkN B N q1 = 62 ∨ tkN B N q1 = 61
    · rw [if_pos v]
      have hsg : strS.contains (tkN B N q1) = true := by rcases v with v | v | v <;> rw [v] <;> rfl
      have hch : chN B N q1 = tkN B N q1 := (ch_sg hsg).mpr rfl
      obtain ⟨hq1, k1, k2⟩ := tk_nx (rfl : tkN B N q1 = tkN B N q1) (by omega)
      have t5 : At1 τ3 (wFI τ3 85 4 (nI (q1 + 1))) (q1 + 1) := at_w (at_r c3)
      have m5 : MAt B N rr (s + cs.length) o (nxN B N q1) (wFI τ3 85 4 (nI (q1 + 1))) := ma_at c2 t5 (by omega) (by unfold nxN; rw [te_sg hsg rfl])
      obtain ⟨x3, x4⟩ := h2 q1 cs rfl v
      obtain ⟨τ4, g1, g2⟩ := x3 d rr (s + cs.length) _ (by omega) (by omega) m5
      have g3 : Run false d 187 0 [some (.ref 85), none] [] (wFI τ3 85 4 (nI (q1 + 1))) = some (.inl (none, τ4)) := g2
      have f04 := mf_t f03 (mf_at (s := 400 * rr + s + cs.length) t5) (by omega)
      have p2 : (bif Nat.beq (tkN B N q1) 60 then Run false (d + 1) 190 125 [some (.ref 85), some (.int (nI (chN B N q1)))] [] τ3 else (bif Nat.beq (tkN B N q1) 62 then Run false (d + 1) 190 125 [some (.ref 85), some (.int (nI (chN B N q1)))] [] τ3 else (bif Nat.beq (tkN B N q1) 61 then Run false (d + 1) 190 125 [some (.ref 85), some (.int (nI (chN B N q1)))] [] τ3 else aft false (d + 1) 190 125 [some (.ref 85), some (.int (nI (chN B N q1)))] [] (Run false d 173 0 [some (.ref 85), some (.int (nI 1)), some (.int (FI τ3 85 4))] [] τ3)))) = Run false (d + 1) 190 146 [some (.ref 85), some (.int (nI (tkN B N q1)))] [] τ4 := by
        rw [hch]
        have e : Run false (d + 1) 190 125 [some (.ref 85), some (.int (nI (tkN B N q1)))] [] τ3 = Run false (d + 1) 190 146 [some (.ref 85), some (.int (nI (tkN B N q1)))] [] τ4 := by
          rw [s190_125, c172_t (by omega) c2.2.1, aft_v, s190_129, z10, cond_false, c3, nI_add, g3, aft_n]
        rw [e]
        rcases v with v | v | v
        · rw [Nbt v]; rfl
        · rw [Nbt v, Nbf (show tkN B N q1 ≠ 60 by omega)]; rfl
        · rw [Nbt v, Nbf (show tkN B N q1 ≠ 60 by omega), Nbf (show tkN B N q1 ≠ 62 by omega)]; rfl
      rw [p2, s190_146]
      rcases r2 with ⟨q2, cs2⟩ | ⟨k, p⟩
      · obtain ⟨g4, g5, g6⟩ := g1
        obtain ⟨y3, y4⟩ := x4
        rw [eb] at g4 g6
        obtain ⟨τ5, t1, t2, t3, t4, t6⟩ := m181 (d := d) (a := cpW (tkN B N q1)) (b := 0) (by omega) (show s + cs.length + cs2.length < 400 by omega) g5
        have ec : 400 * rr + (s + cs.length + cs2.length) = 400 * rr + s + cs.length + cs2.length := by omega
        rw [ec] at t1 t3 t4
        have el : s + (cs ++ (cs2 ++ [(cpW (tkN B N q1), (0 : Nat))])).length = s + cs.length + cs2.length + 1 := by rw [List.length_append, List.length_append]; show s + (cs.length + (cs2.length + 1)) = _; omega
        have cc : CodeM τ5 (400 * rr + s) (cs ++ (cs2 ++ [(cpW (tkN B N q1), 0)])) := codeM_app (codeM_mf (codeM_mf (codeM_mf (codeM_mf b6 (mf_at (s := 400 * rr + s + cs.length) c1) (Nat.le_refl _)) (mf_at (s := 400 * rr + s + cs.length) t5) (Nat.le_refl _)) g4 (Nat.le_refl _)) t1 (by omega)) (codeM_app (codeM_mf g6 t1 (Nat.le_refl _)) (codeM_one t3 t4))
        refine ⟨τ5, mrs_ok (mf_t (mf_t f04 g4 (by omega)) t1 (by omega)) (by rw [el]; exact t2) cc, ?_⟩
        rcases v with v | v | v
        · rw [v] at t6 ⊢
          rw [oeqT rfl, cond_true]
          have t7 : Run false d 181 0 [some (.ref 85), some (.int (nI 12)), some (.int (nI 0))] [] τ4 = some (.inl (none, τ5)) := t6
          rw [t7, aft_n, s190_175]
        · rw [v] at t6 ⊢
          rw [oeqF (by decide) (by decide) (by decide), cond_false, oeqT rfl, cond_true]
          have t7 : Run false d 181 0 [some (.ref 85), some (.int (nI 13)), some (.int (nI 0))] [] τ4 = some (.inl (none, τ5)) := t6
          rw [t7, aft_n, s190_175]
        · rw [v] at t6 ⊢
          rw [oeqF (by decide) (by decide) (by decide), cond_false, oeqF (by decide) (by decide) (by decide), cond_false]
          have t7 : Run false d 181 0 [some (.ref 85), some (.int (nI 14)), some (.int (nI 0))] [] τ4 = some (.inl (none, τ5)) := t6
          rw [t7, aft_n, s190_175]
      · have g4 : Bd (400 * rr + s) σ τ4 k p := ⟨mf_t f04 g1.1 (by omega), g1.2⟩
        obtain ⟨z1, z2, z3⟩ := x4
        refine ⟨τ4, mrs_bad g4, ?_⟩
        rw [m181_b (by omega) g4.2.1 (by omega), m181_b (by omega) g4.2.1 (by omega), m181_b (by omega) g4.2.1 (by omega), aft_n, s190_175]
        cases obl (nI (tkN B N q1) = nI 60)
        · cases obl (nI (tkN B N q1) = nI 62) <;> rfl
        · rfl
    · rw [if_neg v]
      have n1 : tkN B N q1 ≠ 60 := fun w => v (Or.inl w)
      have n2 : tkN B N q1 ≠ 62 := fun w => v (Or.inr (Or.inl w))
      have n3 : tkN B N q1 ≠ 61 := fun w => v (Or.inr (Or.inr w))
      have hb : Bd (400 * rr + s) σ (wFI (wFI τ3 85 5 (nI q1)) 85 6 (nI 1)) 1 q1 := bd_w f03
      rw [Nbf n1, cond_false, Nbf n2, cond_false, Nbf n3, cond_false, c3, c173_t (by omega) c2.2.1, aft_n, bad _ _ 1 q1 (by omega) hb]
      exact ⟨_, mrs_bad hb, rfl⟩
  · have b4 : Bd (400 * rr + s) σ τ2 k p := bd_t f01 b1
    obtain ⟨z1, z2, z3⟩ := hp1
    have e0 : obl (nI 0 = nI 60) = false := oeqF (by decide) (by decide) (by decide)
    have e1 : obl (nI 0 = nI 62) = false := oeqF (by decide) (by decide) (by decide)
    have e2 : obl (nI 0 = nI 61) = false := oeqF (by decide) (by decide) (by decide)
    rw [c172_f (by omega) b4.2.1 (by omega), aft_v, s190_86, z00, cond_true, e0, cond_false, e1, cond_false, e2, cond_false, c173_f (by omega) b4.2.1 (by omega), aft_n, bad _ _ k p (by omega) b4]
    exact ⟨_, mrs_bad b4, rfl⟩
end UM
