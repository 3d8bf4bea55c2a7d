/-! THE LAW: its loop -/
theorem and63 (y : Int32) : ∃ c, c < 64 ∧ (y &&& (nI 63)) = nI c := by
  refine ⟨(y &&& nI 63).toBitVec.toNat, ?_, ?_⟩
  · show (y.toBitVec &&& (nI 63).toBitVec).toNat < 64
    rw [BitVec.toNat_and]
    exact Nat.lt_of_le_of_lt Nat.and_le_right (by decide)
  · exact (Int32.toBitVec_inj.mp (by
      show (y &&& nI 63).toBitVec = BitVec.ofNat 32 _
      rw [BitVec.ofNat_toNat, BitVec.setWidth_eq]))
def tgl : List Nat := [220, 276, 349, 417, 430, 510, 578, 622, 678, 810, 878, 982, 1062, 1142, 1234, 1326, 1413, 1492, 1559, 1638, 1725, 1804, 1848, 1928, 1996, 2099, 2179, 2311, 2379, 2471, 2534, 2613, 2693, 2785, 2865, 2921, 3025, 3117, 3197, 3253, 3321]
theorem tgt_all : (List.range 64).all (fun c => Nat.beq (tswF 40 3306 0 40 #[180, 236, 309, 377, 390, 470, 538, 582, 638, 770, 838, 942, 1022, 1102, 1194, 1286, 1373, 1452, 1519, 1598, 1685, 1764, 1808, 1888, 1956, 2059, 2139, 2271, 2339, 2431, 2494, 2573, 2653, 2745, 2825, 2881, 2985, 3077, 3157, 3213, 3281] (nI c)) (tgl.getD c 3346)) = true := by decide +kernel
theorem tgt_at {c : Nat} (h : c < 64) : tswF 40 3306 0 40 #[180, 236, 309, 377, 390, 470, 538, 582, 638, 770, 838, 942, 1022, 1102, 1194, 1286, 1373, 1452, 1519, 1598, 1685, 1764, 1808, 1888, 1956, 2059, 2139, 2271, 2339, 2431, 2494, 2573, 2653, 2745, 2825, 2881, 2985, 3077, 3157, 3213, 3281] (nI c) = tgl.getD c 3346 := Nat.eq_of_beq_eq_true (List.all_eq_true.mp tgt_all c (List.mem_range.mpr h))
def lLs (i : Int32) (y5 y6 y7 : Option Value) : List (Option Value) := [some (.ref 999), some (.ref 0), some (.ref 85), some (.ref 145), some (.int i), y5, y6, y7]
theorem law_case {d c : Nat} {σ : PS} {a4 : Int32} {z5 z6 z7 : Option Value} (hd : 64 ≤ d) (hI : Inv σ) (hb : ∀ k, 1 ≤ k → k ≤ 7 → inb (a4 + (nI k)) (xL (XX σ)) = true) : ∃ y5 y6 y7 τ, Run false (d + 2) 306 (tgl.getD c 3346) (lLs a4 z5 z6 z7) [] σ = Run false (d + 2) 306 3346 (lLs a4 y5 y6 y7) [] τ ∧ Inv τ ∧ Kp σ τ := by
  have b1 := hb 1 (by decide) (by decide)
  have b2 := hb 2 (by decide) (by decide)
  have b3 := hb 3 (by decide) (by decide)
  have b4 := hb 4 (by decide) (by decide)
  have b5 := hb 5 (by decide) (by decide)
  have b6 := hb 6 (by decide) (by decide)
  have b7 := hb 7 (by decide) (by decide)
  match c with
  | 0 => exact case_0 hd hI b1 b2 b3 b4 b5 b6 b7
  | 1 => exact case_1 hd hI b1 b2 b3 b4 b5 b6 b7
  | 2 => exact case_2 hd hI b1 b2 b3 b4 b5 b6 b7
  | 3 => exact case_3 hd hI b1 b2 b3 b4 b5 b6 b7
  | 4 => exact case_4 hd hI b1 b2 b3 b4 b5 b6 b7
  | 5 => exact case_5 hd hI b1 b2 b3 b4 b5 b6 b7
  | 6 => exact case_6 hd hI b1 b2 b3 b4 b5 b6 b7
  | 7 => exact case_7 hd hI b1 b2 b3 b4 b5 b6 b7
  | 8 => exact case_8 hd hI b1 b2 b3 b4 b5 b6 b7
  | 9 => exact case_9 hd hI b1 b2 b3 b4 b5 b6 b7
  | 10 => exact case_10 hd hI b1 b2 b3 b4 b5 b6 b7
  | 11 => exact case_11 hd hI b1 b2 b3 b4 b5 b6 b7
  | 12 => exact case_12 hd hI b1 b2 b3 b4 b5 b6 b7
  | 13 => exact case_13 hd hI b1 b2 b3 b4 b5 b6 b7
  | 14 => exact case_14 hd hI b1 b2 b3 b4 b5 b6 b7
  | 15 => exact case_15 hd hI b1 b2 b3 b4 b5 b6 b7
  | 16 => exact case_16 hd hI b1 b2 b3 b4 b5 b6 b7
  | 17 => exact case_17 hd hI b1 b2 b3 b4 b5 b6 b7
  | 18 => exact case_18 hd hI b1 b2 b3 b4 b5 b6 b7
  | 19 => exact case_19 hd hI b1 b2 b3 b4 b5 b6 b7
  | 20 => exact case_20 hd hI b1 b2 b3 b4 b5 b6 b7
  | 21 => exact case_21 hd hI b1 b2 b3 b4 b5 b6 b7
  | 22 => exact case_22 hd hI b1 b2 b3 b4 b5 b6 b7
  | 23 => exact case_23 hd hI b1 b2 b3 b4 b5 b6 b7
  | 24 => exact case_24 hd hI b1 b2 b3 b4 b5 b6 b7
  | 25 => exact case_25 hd hI b1 b2 b3 b4 b5 b6 b7
  | 26 => exact case_26 hd hI b1 b2 b3 b4 b5 b6 b7
  | 27 => exact case_27 hd hI b1 b2 b3 b4 b5 b6 b7
  | 28 => exact case_28 hd hI b1 b2 b3 b4 b5 b6 b7
  | 29 => exact case_29 hd hI b1 b2 b3 b4 b5 b6 b7
  | 30 => exact case_30 hd hI b1 b2 b3 b4 b5 b6 b7
  | 31 => exact case_31 hd hI b1 b2 b3 b4 b5 b6 b7
  | 32 => exact case_32 hd hI b1 b2 b3 b4 b5 b6 b7
  | 33 => exact case_33 hd hI b1 b2 b3 b4 b5 b6 b7
  | 34 => exact case_34 hd hI b1 b2 b3 b4 b5 b6 b7
  | 35 => exact case_35 hd hI b1 b2 b3 b4 b5 b6 b7
  | 36 => exact case_36 hd hI b1 b2 b3 b4 b5 b6 b7
  | 37 => exact case_37 hd hI b1 b2 b3 b4 b5 b6 b7
  | 38 => exact case_38 hd hI b1 b2 b3 b4 b5 b6 b7
  | 39 => exact case_39 hd hI b1 b2 b3 b4 b5 b6 b7
  | 40 => exact case_40 hd hI b1 b2 b3 b4 b5 b6 b7
  | c + 41 =>
    refine ⟨z5, z6, z7, σ, ?_, hI, Kp_off off_r⟩
    rw [show tgl.getD (c + 41) 3346 = 3346 from by rw [List.getD_eq_getElem?_getD, List.getElem?_eq_none (show tgl.length ≤ c + 41 from Nat.le_add_left 41 c)]; rfl]
/-- one call of the script -/
theorem law_it {d i : Nat} {σ : PS} {z5 z6 z7 : Option Value} (hd : 64 ≤ d) (hI : Inv σ) (hL : xL (XX σ) ≤ 4096) (hi : i + 8 ≤ xL (XX σ)) : ∃ y5 y6 y7 τ, Run false (d + 2) 306 23 (lLs (nI i) z5 z6 z7) [] σ = Run false (d + 2) 306 23 (lLs (nI (i + 8)) y5 y6 y7) [] τ ∧ Inv τ ∧ Kp σ τ := by
  have hb : ∀ k, k ≤ 7 → inb (nI i + nI k) (xL (XX σ)) = true := fun k hk => by rw [nI_add]; exact inbT (by omega) (by omega)
  have h0 : inb (nI i) (xL (XX σ)) = true := inbT (by omega) (by omega)
  have hc : obl (nI (xL (XX σ)) - nI 8 < nI i) = false := by rw [nI_sub (by omega)]; exact oltF (by omega) (by omega)
  obtain ⟨c, hc64, ec⟩ := and63 (AI σ 999 i)
  obtain ⟨y5, y6, y7, τ, e, g1, g2⟩ := law_case (c := c) (z5 := z5) (z6 := z6) (z7 := z7) hd hI (fun k _ h => hb k h)
  refine ⟨y5, y6, y7, τ, ?_, g1, g2⟩
  unfold lLs at e ⊢
  rw [s306_23, hc, cond_false, h0, cond_true, nI_clamp (by omega), ec, tgt_at hc64, e, s306_3346, nI_add]
theorem neg8 : ∀ k, k < 8 → (nI k - nI 8).toInt < 0 := by decide
theorem law_out {d i : Nat} {σ : PS} {z5 z6 z7 : Option Value} (hi : i < 2 ^ 31) (hL : xL (XX σ) ≤ 4096) (h : xL (XX σ) < i + 8) : Run false (d + 2) 306 23 (lLs (nI i) z5 z6 z7) [] σ = some (.inl (some (.int (nI 1)), σ)) := by
  have hc : obl (nI (xL (XX σ)) - nI 8 < nI i) = true := by
    by_cases q : 8 ≤ xL (XX σ)
    · rw [nI_sub q]; exact oltT (by omega) hi
    · refine obl_t (Int32.lt_iff_toInt_lt.mpr ?_)
      have := neg8 (xL (XX σ)) (by omega)
      rw [nI_toInt hi]
      omega
  unfold lLs
  rw [s306_23, hc, cond_true, is01_1, cond_true]
/-- the whole loop -/
theorem law_lp {d : Nat} (hd : 64 ≤ d) : ∀ (n i : Nat) (σ : PS) (z5 z6 z7 : Option Value), Inv σ → xL (XX σ) ≤ 4096 → i + 8 * n ≤ 8192 → xL (XX σ) < i + 8 * n + 8 → ∃ τ, Run false (d + 2) 306 23 (lLs (nI i) z5 z6 z7) [] σ = some (.inl (some (.int (nI 1)), τ)) ∧ xC (XX τ) ≤ xC (XX σ) + n ∧ xS (XX τ) ≤ xS (XX σ) + 6 * n := by
  intro n
  induction n with
  | zero =>
    intro i σ z5 z6 z7 hI hL h1 h2
    exact ⟨σ, law_out (by omega) hL (by omega), by omega, by omega⟩
  | succ n ih =>
    intro i σ z5 z6 z7 hI hL h1 h2
    by_cases q : i + 8 ≤ xL (XX σ)
    · obtain ⟨y5, y6, y7, τ, e, g1, g2⟩ := law_it (z5 := z5) (z6 := z6) (z7 := z7) hd hI hL q
      obtain ⟨k1, k2, k3, k4, k5, k6, k7⟩ := g2
      obtain ⟨υ, u1, u2, u3⟩ := ih (i + 8) τ y5 y6 y7 g1 (by omega) (by omega) (by omega)
      exact ⟨υ, e.trans u1, by omega, by omega⟩
    · exact ⟨σ, law_out (by omega) hL (by omega), by omega, by omega⟩
