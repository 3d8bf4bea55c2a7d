/-! THE PURE PROOFS: how the model reads its bytes -/
/-- only the place changes -/
def At1 (σ τ : PS) (q : Nat) : Prop := (∀ o k, ¬ (o = 85 ∧ k = 4) → FI τ o k = FI σ o k) ∧ FI τ 85 4 = nI q ∧ FL τ = FL σ ∧ AI τ = AI σ ∧ AL τ = AL σ ∧ XX τ = XX σ
/-- the place, the fault, what is open, the steps behind s change -/
def MF (s : Nat) (σ τ : PS) : Prop := (∀ o k, ¬ (o = 85 ∧ 4 ≤ k ∧ k ≤ 8) → FI τ o k = FI σ o k) ∧ FL τ = FL σ ∧ AL τ = AL σ ∧ XX τ = XX σ ∧ (∀ o, o ≠ 94 → o ≠ 95 → AI τ o = AI σ o) ∧ ∀ j, j < s → AI τ 94 j = AI σ 94 j ∧ AI τ 95 j = AI σ 95 j
/-- a fault is known -/
def Bd (s : Nat) (σ τ : PS) (k p : Nat) : Prop := MF s σ τ ∧ FI τ 85 5 = nI p ∧ FI τ 85 6 = nI k
def MB (B : Nat → Nat) (N : Nat) (σ : PS) : Prop := FI σ 85 3 = nI N ∧ ∀ j, j < N → AI σ 86 j = nI (B j)
def chN (B : Nat → Nat) (N q : Nat) : Nat := if q < N then B q else 0
section M1
variable {s q N d : Nat} {B : Nat → Nat} {σ τ υ : PS}
theorem at_r (h : FI σ 85 4 = nI q) : At1 σ σ q := ⟨fun _ _ _ => rfl, h, rfl, rfl, rfl, rfl⟩
theorem at_t {q' : Nat} (h : At1 σ τ q) (g : At1 τ υ q') : At1 σ υ q' := ⟨fun o k n => (g.1 o k n).trans (h.1 o k n), g.2.1, g.2.2.1.trans h.2.2.1, g.2.2.2.1.trans h.2.2.2.1, g.2.2.2.2.1.trans h.2.2.2.2.1, g.2.2.2.2.2.trans h.2.2.2.2.2⟩
theorem at_w {q' : Nat} (h : At1 σ τ q) : At1 σ (wFI τ 85 4 (nI q')) q' := by
  refine ⟨fun o k n => ?_, FI_q, h.2.2⟩
  rw [FI_n (by omega)]
  exact h.1 o k n
theorem at_F (h : At1 σ τ q) {o k : Nat} (n : o ≠ 85 ∨ k ≠ 4) : FI τ o k = FI σ o k := h.1 o k (by omega)
theorem at_A (h : At1 σ τ q) (o : Nat) : AI τ o = AI σ o := by rw [h.2.2.2.1]
theorem mf_r : MF s σ σ := ⟨fun _ _ _ => rfl, rfl, rfl, rfl, fun _ _ _ => rfl, fun _ _ => ⟨rfl, rfl⟩⟩
theorem mf_t {s' : Nat} (h : MF s σ τ) (g : MF s' τ υ) (hs : s ≤ s') : MF s σ υ := ⟨fun o k n => (g.1 o k n).trans (h.1 o k n), g.2.1.trans h.2.1, g.2.2.1.trans h.2.2.1, g.2.2.2.1.trans h.2.2.2.1, fun o a b => (g.2.2.2.2.1 o a b).trans (h.2.2.2.2.1 o a b), fun j hj => ⟨(g.2.2.2.2.2 j (by omega)).1.trans (h.2.2.2.2.2 j hj).1, (g.2.2.2.2.2 j (by omega)).2.trans (h.2.2.2.2.2 j hj).2⟩⟩
theorem mf_at (h : At1 σ τ q) : MF s σ τ := ⟨fun o k n => h.1 o k (by omega), h.2.2.1, h.2.2.2.2.1, h.2.2.2.2.2, fun o _ _ => by rw [h.2.2.2.1], fun j _ => by rw [h.2.2.2.1]; exact ⟨rfl, rfl⟩⟩
theorem mf_w {k : Nat} {v : Int32} (h : MF s σ τ) (hk : 4 ≤ k ∧ k ≤ 8) : MF s σ (wFI τ 85 k v) := by
  refine ⟨fun o j n => ?_, h.2⟩
  rw [FI_n (by omega)]
  exact h.1 o j n
theorem MB_mf (h : MB B N σ) (g : MF s σ τ) : MB B N τ := ⟨(g.1 85 3 (by omega)).trans h.1, fun j hj => by rw [g.2.2.2.2.1 86 (by decide) (by decide)]; exact h.2 j hj⟩
theorem MB_at (h : MB B N σ) (g : At1 σ τ q) : MB B N τ := MB_mf h (mf_at (s := 0) g)
theorem c176 {b : Nat} (hd : 1 ≤ d) (h : b ≤ 255) : Run false d 176 0 [some (.int (nI b))] [] σ = some (.inl (some (.int (bo1 (isDg b))), σ)) := by
  obtain ⟨d, rfl⟩ := dS hd
  rw [s176_0, (dg_o h).1, (dg_o h).2, is01_0, is01_1]
  unfold isDg bo1
  cases Nat.ble 48 b
  · rfl
  · cases Nat.ble b 57 <;> rfl
theorem c175 {b : Nat} (hd : 1 ≤ d) (h : b ≤ 255) : Run false d 175 0 [some (.int (nI b))] [] σ = some (.inl (some (.int (bo1 (isLt b))), σ)) := by
  obtain ⟨d, rfl⟩ := dS hd
  rw [s175_0, (lt_o h).1, (lt_o h).2, is01_0, is01_1]
  unfold isLt bo1
  cases Nat.ble 97 b
  · rfl
  · cases Nat.ble b 122 <;> rfl
theorem ch_le (hB : ∀ j, j < N → B j ≤ 255) : chN B N q ≤ 255 := by
  unfold chN
  split
  · exact hB q (by assumption)
  · exact Nat.zero_le _
/-- here -/
theorem c174 {a : Nat} (hd : 1 ≤ d) (hN : N ≤ 400) (hM : MB B N σ) (hB : ∀ j, j < N → B j ≤ 255) (ha : FI σ 85 4 = nI a) (ha2 : a ≤ N) (hq : skp B N a = q) : ∃ τ, At1 σ τ q ∧ Run false d 174 0 [some (.ref 85)] [] σ = some (.inl (some (.int (nI (chN B N q))), τ)) := by
  obtain ⟨d, rfl⟩ := dS hd
  obtain ⟨a1, a2, a3, a4⟩ := skp_ok (B := B) (N := N) (p := a)
  rw [hq] at a1 a2 a3 a4
  obtain ⟨τ, h1, h2⟩ := lpS (P := fun j τ => At1 σ τ (a + j)) (R := fun _ τ => Run false (d + 1) 174 0 [some (.ref 85)] [] τ) (n := q - a) (fun j τ hj hp => by
    obtain ⟨u1, u2⟩ := a3 (a + j) (by omega) (by omega)
    have hb := hB _ u1
    have e32 : B (a + j) = 32 := Nat.eq_of_beq_eq_true u2
    have e3 : FI τ 85 3 = nI N := (at_F hp (Or.inr (by decide))).trans hM.1
    refine ⟨wFI τ 85 4 (nI (a + (j + 1))), at_w hp, ?_⟩
    show Run false (d + 1) 174 0 _ [] τ = _
    rw [s174_0, hp.2.1, e3, oleF u1 (by omega), cond_false, inbT (by omega) (by decide), cond_true, nI_clamp (by omega), at_A hp 86, hM.2 _ u1, e32, obl_t rfl, cond_true, nI_add, Nat.add_assoc]) 0 σ (Nat.zero_le _) (at_r ha)
  have eq : a + (q - a) = q := by omega
  rw [eq] at h1
  refine ⟨τ, h1, h2.trans ?_⟩
  have e3 : FI τ 85 3 = nI N := (at_F h1 (Or.inr (by decide))).trans hM.1
  show Run false (d + 1) 174 0 _ [] τ = _
  unfold chN
  rw [s174_0, h1.2.1, e3]
  by_cases w : q < N
  · have hb := hB _ w
    have n32 : B q ≠ 32 := fun e => by
      have := a4 w
      unfold isSp at this
      rw [Nbt e] at this; cases this
    rw [oleF w (by omega), cond_false, inbT (by omega) (by decide), cond_true, nI_clamp (by omega), at_A h1 86, hM.2 _ w, oeqF n32 (by omega) (by decide), cond_false, cond_false, cond_true, if_pos w]
  · rw [oleT (Nat.le_of_not_lt w) (by omega), cond_true, cond_true, if_neg w]
/-- is all well -/
theorem c172_t (hd : 1 ≤ d) (h : FI σ 85 5 = -1) : Run false d 172 0 [some (.ref 85)] [] σ = some (.inl (some (.int (nI 1)), σ)) := by
  obtain ⟨d, rfl⟩ := dS hd
  rw [s172_0, h, obl_t rfl, cond_true, is01_1, cond_true]
theorem c172_f {p : Nat} (hd : 1 ≤ d) (h : FI σ 85 5 = nI p) (hp : p < 2 ^ 31) : Run false d 172 0 [some (.ref 85)] [] σ = some (.inl (some (.int (nI 0)), σ)) := by
  obtain ⟨d, rfl⟩ := dS hd
  rw [s172_0, h, obl_f (nI_m1n hp), cond_false, is01_0, cond_true]
theorem c173_t {k p : Int32} (hd : 1 ≤ d) (h : FI σ 85 5 = -1) : Run false d 173 0 [some (.ref 85), some (.int k), some (.int p)] [] σ = some (.inl (none, wFI (wFI σ 85 5 p) 85 6 k)) := by
  obtain ⟨d, rfl⟩ := dS hd
  rw [s173_0, h, obl_t rfl, cond_true]
theorem c173_f {k p : Int32} {p' : Nat} (hd : 1 ≤ d) (h : FI σ 85 5 = nI p') (hp : p' < 2 ^ 31) : Run false d 173 0 [some (.ref 85), some (.int k), some (.int p)] [] σ = some (.inl (none, σ)) := by
  obtain ⟨d, rfl⟩ := dS hd
  rw [s173_0, h, obl_f (nI_m1n hp), cond_false]
theorem bd_w {k p : Nat} (h : MF s σ τ) : Bd s σ (wFI (wFI τ 85 5 (nI p)) 85 6 (nI k)) k p := ⟨mf_w (mf_w h (by omega)) (by omega), by rw [FI_n (Or.inr (by decide)), FI_q], FI_q⟩
theorem bd_t {k p : Nat} (h : MF s σ τ) (g : Bd s τ υ k p) : Bd s σ υ k p := ⟨mf_t h g.1 (Nat.le_refl _), g.2⟩
/-- a letter more -/
theorem let_s {w b : Nat} (hw : w < 2 ^ 30) (hb : 97 ≤ b ∧ b ≤ 122) : ((lN w) <<< ((nI 5).toInt64 &&& 63)) ||| ((nI b - nI 96).toInt64) = lN (w * 32 + (b - 96)) := by
  have e5 : (nI (b - 96)).toInt64 = lN (b - 96) := nI_l (by omega)
  rw [nI_sub (by omega), e5]
  apply Int64.toBitVec_inj.mp
  show ((lN w).toBitVec <<< 5) ||| (lN (b - 96)).toBitVec = (lN (w * 32 + (b - 96))).toBitVec
  have tn : ∀ x, x < 2 ^ 64 → (lN x).toBitVec.toNat = x := fun x hx => by
    show (BitVec.ofNat 64 x).toNat = x
    rw [BitVec.toNat_ofNat, Nat.mod_eq_of_lt hx]
  apply BitVec.eq_of_toNat_eq
  rw [BitVec.toNat_or, BitVec.toNat_shiftLeft, tn w (by omega), tn _ (by omega), tn _ (by omega), Nat.shiftLeft_eq, Nat.mod_eq_of_lt (by omega)]
  have := Nat.two_pow_add_eq_or_of_lt (i := 5) (show b - 96 < 2 ^ 5 by omega) w
  rw [Nat.mul_comm] at this
  exact this.symm
theorem wl_b {n : Nat} (hn : n ≤ 7) (h : ∀ i, i < n → isLt (B (q + i)) = true) : wlN B q n < 2 ^ 35 := by
  have h1 := wl_lt (B := B) (q := q) n hn h
  have h2 : (32 : Nat) ^ n ≤ 32 ^ 7 := Nat.pow_le_pow_right (by decide) hn
  have h3 : (32 : Nat) ^ 7 = 2 ^ 35 := by decide
  omega
/-- the word that stands there -/
theorem c177 {a : Nat} (hd : 2 ≤ d) (hN : N ≤ 400) (hM : MB B N σ) (hB : ∀ j, j < N → B j ≤ 255) (ha : FI σ 85 4 = nI a) (ha2 : a ≤ N) (hq : skp B N a = q) : ∃ τ, At1 σ τ q ∧ Run false d 177 0 [some (.ref 85), none, none, none, none] [] σ = some (.inl (some (.long (lN (wvN B N q))), τ)) := by
  obtain ⟨d, rfl⟩ := dS (show 1 ≤ d by omega)
  obtain ⟨τ, h1, h2⟩ := c174 (d := d) (by omega) hN hM hB ha ha2 hq
  refine ⟨τ, h1, ?_⟩
  have e3 : FI τ 85 3 = nI N := (at_F h1 (Or.inr (by decide))).trans hM.1
  have qN : q ≤ N := by rw [← hq]; exact skp_ok.2.1 ha2
  obtain ⟨a1, a2, a3, a4⟩ := lte_ok (B := B) (N := N) (p := q)
  have aN := a2 qN
  rw [s177_0, h2, aft_v, s177_4, h1.2.1]
  refine (lpU (f := fun n => Run false (d + 1) 177 15 [some (.ref 85), some (.long (lN (wlN B q n))), none, some (.int (nI n)), some (.int (nI (q + n)))] [] τ) (n := lte B N q - q) (fun n hn => ?_) 0 (Nat.zero_le _)).trans ?_
  · obtain ⟨u1, u2⟩ := a3 (q + n) (by omega) (by omega)
    have hb := hB _ u1
    have hr := lt_r u2
    show _ = Run false (d + 1) 177 15 [some (.ref 85), some (.long (lN (if n < 7 then wlN B q n * 32 + (B (q + n) - 96) else 0))), none, some (.int (nI (n + 1))), some (.int (nI (q + n + 1)))] [] τ
    rw [s177_15, e3, oleF u1 (by omega), cond_false, inbT (by omega) (by decide), cond_true, nI_clamp (by omega), at_A h1 86, hM.2 _ u1, c175 (by omega) hb, aft_v, s177_34, bo1_0, u2, show (!true) = false from rfl, cond_false, nI_add, nI_add, nI_clamp (by omega), at_A h1 86, hM.2 _ u1]
    by_cases w : n < 7
    · have hw : wlN B q n < 2 ^ 30 := by
        have h1 := wl_lt (B := B) (q := q) n (by omega) (fun i hi => (a3 (q + i) (by omega) (by omega)).2)
        have h2 : (32 : Nat) ^ n ≤ 32 ^ 6 := Nat.pow_le_pow_right (by decide) (by omega)
        have h3 : (32 : Nat) ^ 6 = 2 ^ 30 := by decide
        omega
      rw [oleF w (by omega), cond_false, if_pos w, let_s hw hr, inbT (by omega) (by decide), cond_true]
    · rw [oleT (Nat.le_of_not_lt w) (by omega), cond_true, if_neg w]
  · have e : q + (lte B N q - q) = lte B N q := by omega
    show Run false (d + 1) 177 15 [some (.ref 85), some (.long (lN (wlN B q (lte B N q - q)))), none, some (.int (nI (lte B N q - q))), some (.int (nI (q + (lte B N q - q))))] [] τ = _
    have fin : (bif obl (nI (lte B N q - q) ≤ nI 7) then (some (.inl (some (.long (lN (wlN B q (lte B N q - q)))), τ)) : Option PO) else some (.inl (some (.long (lN 0)), τ))) = some (.inl (some (.long (lN (wvN B N q))), τ)) := by
      unfold wvN
      by_cases w : lte B N q - q ≤ 7
      · rw [oleT w (by decide), if_pos w]; rfl
      · rw [oleF (by omega) (by omega), if_neg w]; rfl
    rw [e, s177_15, e3]
    by_cases w : N ≤ lte B N q
    · rw [oleT w (by omega), cond_true]; exact fin
    · rw [oleF (by omega) (by omega), cond_false, inbT (by omega) (by decide), cond_true, nI_clamp (by omega), at_A h1 86, hM.2 _ (by omega), c175 (by omega) (hB _ (by omega)), aft_v, s177_34, bo1_0, a4 (by omega), show (!false) = true from rfl, cond_true]
      exact fin
/-- behind the word -/
theorem c178 {a : Nat} (hd : 2 ≤ d) (hN : N ≤ 400) (hM : MB B N σ) (hB : ∀ j, j < N → B j ≤ 255) (ha : FI σ 85 4 = nI a) (ha2 : a ≤ N) : ∃ τ, At1 σ τ (lte B N a) ∧ Run false d 178 0 [some (.ref 85)] [] σ = some (.inl (none, τ)) := by
  obtain ⟨d, rfl⟩ := dS (show 1 ≤ d by omega)
  obtain ⟨a1, a2, a3, a4⟩ := lte_ok (B := B) (N := N) (p := a)
  have aN := a2 ha2
  obtain ⟨τ, h1, h2⟩ := lpS (P := fun j τ => At1 σ τ (a + j)) (R := fun _ τ => Run false (d + 1) 178 0 [some (.ref 85)] [] τ) (n := lte B N a - a) (fun j τ hj hp => by
    obtain ⟨u1, u2⟩ := a3 (a + j) (by omega) (by omega)
    have e3 : FI τ 85 3 = nI N := (at_F hp (Or.inr (by decide))).trans hM.1
    refine ⟨wFI τ 85 4 (nI (a + (j + 1))), at_w hp, ?_⟩
    show Run false (d + 1) 178 0 _ [] τ = _
    rw [s178_0, hp.2.1, e3, oleF u1 (by omega), cond_false, inbT (by omega) (by decide), cond_true, nI_clamp (by omega), at_A hp 86, hM.2 _ u1, c175 (by omega) (hB _ u1), aft_v, s178_23, bo1_0, u2, show (!true) = false from rfl, cond_false, hp.2.1, nI_add, Nat.add_assoc]) 0 σ (Nat.zero_le _) (at_r ha)
  have eq : a + (lte B N a - a) = lte B N a := by omega
  rw [eq] at h1
  refine ⟨τ, h1, h2.trans ?_⟩
  have e3 : FI τ 85 3 = nI N := (at_F h1 (Or.inr (by decide))).trans hM.1
  show Run false (d + 1) 178 0 _ [] τ = _
  rw [s178_0, h1.2.1, e3]
  by_cases w : lte B N a < N
  · rw [oleF w (by omega), cond_false, inbT (by omega) (by decide), cond_true, nI_clamp (by omega), at_A h1 86, hM.2 _ w, c175 (by omega) (hB _ w), aft_v, s178_23, bo1_0, a4 w, show (!false) = true from rfl, cond_true]
  · rw [oleT (Nat.le_of_not_lt w) (by omega), cond_true]
/-- a number -/
theorem c179_go {a lo hi : Nat} (hd : 2 ≤ d) (hN : N ≤ 400) (hM : MB B N σ) (hB : ∀ j, j < N → B j ≤ 255) (hf : FI σ 85 5 = -1) (ha : FI σ 85 4 = nI a) (ha2 : a ≤ N) (hq : skp B N a = q) (hdg : q < N ∧ isDg (B q) = true) (hlo : lo ≤ 9999) (hhi : hi ≤ 9999) : ∃ τ, (if lo ≤ nvN B N q ∧ nvN B N q ≤ hi then At1 σ τ (teN B N q) else Bd s σ τ 2 q) ∧ ∃ v, (lo ≤ nvN B N q ∧ nvN B N q ≤ hi → v = nI (nvN B N q)) ∧ Run false d 179 0 [some (.ref 85), some (.int (nI lo)), some (.int (nI hi)), none, none, none] [] σ = some (.inl (some (.int v), τ)) := by
  obtain ⟨d, rfl⟩ := dS (show 1 ≤ d by omega)
  obtain ⟨τ, h1, h2⟩ := c174 (d := d) (by omega) hN hM hB ha ha2 hq
  obtain ⟨a1, a2, a3, a4⟩ := dge_ok (B := B) (N := N) (p := q)
  have aN := a2 (by omega)
  have ech : chN B N q = B q := if_pos hdg.1
  obtain ⟨τ2, h3, h4⟩ := lpS (P := fun j τ' => At1 σ τ' (q + j)) (R := fun j τ' => Run false (d + 1) 179 41 [some (.ref 85), some (.int (nI lo)), some (.int (nI hi)), some (.int (nI (B q))), some (.int (nI q)), some (.int (nI (mvN B q j)))] [] τ') (n := dge B N q - q) (fun j τ' hj hp => by
    obtain ⟨u1, u2⟩ := a3 (q + j) (by omega) (by omega)
    have hr := dg_r u2
    have hm := cm_v (B := B) (q := q) j (fun i hi => (a3 (q + i) (by omega) (by omega)).2)
    have e3 : FI τ' 85 3 = nI N := (at_F hp (Or.inr (by decide))).trans hM.1
    refine ⟨wFI τ' 85 4 (nI (q + (j + 1))), at_w hp, ?_⟩
    show Run false (d + 1) 179 41 _ [] τ' = Run false (d + 1) 179 41 [some (.ref 85), some (.int (nI lo)), some (.int (nI hi)), some (.int (nI (B q))), some (.int (nI q)), some (.int (nI (if 10000 < mvN B q j then 100000 else 10 * mvN B q j + (B (q + j) - 48))))] [] (wFI τ' 85 4 (nI (q + (j + 1))))
    rw [s179_41, hp.2.1, e3, oleF u1 (by omega), cond_false, inbT (by omega) (by decide), cond_true, nI_clamp (by omega), at_A hp 86, hM.2 _ u1, c176 (by omega) (hB _ u1), aft_v, s179_64, bo1_0, u2, show (!true) = false from rfl, cond_false, hp.2.1, inbT (by omega) (by decide), cond_true, nI_clamp (by omega), at_A hp 86, hM.2 _ u1, nI_add, ← Nat.add_assoc]
    by_cases w : 10000 < mvN B q j
    · rw [oleF w (by omega), cond_false, if_pos w]
    · rw [oleT (Nat.le_of_not_lt w) (by decide), cond_true, if_neg w, nI_mul, nI_add, nI_sub (by omega), show 10 * mvN B q j + B (q + j) - 48 = 10 * mvN B q j + (B (q + j) - 48) by omega]) 0 τ (Nat.zero_le _) h1
  have eq : q + (dge B N q - q) = dge B N q := by omega
  rw [eq] at h3
  have e3 : FI τ2 85 3 = nI N := (at_F h3 (Or.inr (by decide))).trans hM.1
  have hm := cm_v (B := B) (q := q) (dge B N q - q) (fun i hi => (a3 (q + i) (by omega) (by omega)).2)
  have enc : nvN B N q = cvN B q (dge B N q - q) := by unfold nvN; rw [if_pos hdg]
  have ete : teN B N q = dge B N q := by unfold teN; rw [if_neg (by omega), if_pos hdg.2]
  have e5 : FI τ2 85 5 = -1 := (at_F h3 (Or.inr (by decide))).trans hf
  have p1 : ∀ R : Option PO, aft false (d + 1) 179 120 [some (.ref 85), some (.int (nI lo)), some (.int (nI hi)), some (.int (nI (B q))), some (.int (nI q)), some (.int (nI (mvN B q (dge B N q - q))))] [] (Run false d 166 0 [some (.int (nI (mvN B q (dge B N q - q)))), some (.int (nI lo)), some (.int (nI hi))] [] τ2) = R → Run false (d + 1) 179 0 [some (.ref 85), some (.int (nI lo)), some (.int (nI hi)), none, none, none] [] σ = R := by
    intro R hR
    rw [s179_0, c172_t (by omega) hf, aft_v, s179_4, z10, cond_false, h2, aft_v, s179_13, h1.2.1, ech, c176 (by omega) (hB _ hdg.1), aft_v, s179_27, bo1_0, hdg.2, show (!true) = false from rfl, cond_false]
    refine h4.trans ?_
    show Run false (d + 1) 179 41 _ [] τ2 = _
    rw [s179_41, h3.2.1, e3]
    by_cases w : dge B N q < N
    · rw [oleF w (by omega), cond_false, inbT (by omega) (by decide), cond_true, nI_clamp (by omega), at_A h3 86, hM.2 _ w, c176 (by omega) (hB _ w), aft_v, s179_64, bo1_0, a4 w, show (!false) = true from rfl, cond_true]
      exact hR
    · rw [oleT (Nat.le_of_not_lt w) (by omega), cond_true]
      exact hR
  by_cases w : lo ≤ nvN B N q ∧ nvN B N q ≤ hi
  · have hv : mvN B q (dge B N q - q) = nvN B N q := by omega
    refine ⟨τ2, ?_, nI (nvN B N q), fun _ => rfl, p1 _ ?_⟩
    · rw [if_pos w, ete]; exact h3
    · rw [hv, c166_T (by omega) (ir_nI w.1 w.2) (by omega) (by omega), aft_v, s179_120, z10, cond_false, s179_130]
  · have hv : ¬ IR lo hi (nI (mvN B q (dge B N q - q))) := by
      rintro ⟨x, x1, x2, x3⟩
      have := (nI_eq (by omega) (by omega)).mp x3
      omega
    refine ⟨wFI (wFI τ2 85 5 (nI q)) 85 6 (nI 2), ?_, nI (mvN B q (dge B N q - q)), fun u => absurd u w, p1 _ ?_⟩
    · rw [if_neg w]; exact bd_w (mf_at h3)
    · rw [c166_F (by omega) hv (by omega) (by omega), aft_v, s179_120, z00, cond_true, c173_t (by omega) e5, aft_n, s179_130]
theorem c179_no {a : Nat} {lo hi : Int32} (hd : 2 ≤ d) (hN : N ≤ 400) (hM : MB B N σ) (hB : ∀ j, j < N → B j ≤ 255) (hf : FI σ 85 5 = -1) (ha : FI σ 85 4 = nI a) (ha2 : a ≤ N) (hq : skp B N a = q) (hdg : ¬ (q < N ∧ isDg (B q) = true)) : ∃ τ, Bd s σ τ 1 q ∧ Run false d 179 0 [some (.ref 85), some (.int lo), some (.int hi), none, none, none] [] σ = some (.inl (some (.int (nI 0)), τ)) := by
  obtain ⟨d, rfl⟩ := dS (show 1 ≤ d by omega)
  obtain ⟨τ, h1, h2⟩ := c174 (d := d) (by omega) hN hM hB ha ha2 hq
  have e5 : FI τ 85 5 = -1 := (at_F h1 (Or.inr (by decide))).trans hf
  have hch : isDg (chN B N q) = false := by
    unfold chN
    by_cases w : q < N
    · rw [if_pos w]
      cases c : isDg (B q)
      · rfl
      · exact absurd ⟨w, c⟩ hdg
    · rw [if_neg w]; rfl
  refine ⟨wFI (wFI τ 85 5 (nI q)) 85 6 (nI 1), bd_w (mf_at h1), ?_⟩
  rw [s179_0, c172_t (by omega) hf, aft_v, s179_4, z10, cond_false, h2, aft_v, s179_13, h1.2.1, c176 (by omega) (ch_le hB), aft_v, s179_27, bo1_0, hch, show (!false) = true from rfl, cond_true, h1.2.1, c173_t (by omega) e5, aft_n, s179_39]
theorem c179_b {p : Nat} {lo hi : Int32} (hd : 2 ≤ d) (hf : FI σ 85 5 = nI p) (hp : p < 2 ^ 31) : Run false d 179 0 [some (.ref 85), some (.int lo), some (.int hi), none, none, none] [] σ = some (.inl (some (.int (nI 0)), σ)) := by
  obtain ⟨d, rfl⟩ := dS (show 1 ≤ d by omega)
  rw [s179_0, c172_f (by omega) hf hp, aft_v, s179_4, z00, cond_true]
end M1
