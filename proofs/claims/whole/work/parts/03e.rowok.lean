/-! every row, at every place -/
theorem rows_at {k a n : Nat} (h : rowsChk k a n = true) {pc : Nat} (h1 : a ≤ pc) (h2 : pc < a + n) : rowChk k pc = true := by
  have := List.all_eq_true.mp h (pc - a) (List.mem_range.mpr (by omega))
  rw [show a + (pc - a) = pc by omega] at this
  exact this
theorem rows_of {a n : Nat} (h : (List.range n).all (fun k => rowsChk (a + k) 0 (msz (a + k))) = true) {k pc : Nat} (h1 : a ≤ k) (h2 : k < a + n) (h3 : pc < msz k) : rowChk k pc = true := by
  have := List.all_eq_true.mp h (k - a) (List.mem_range.mpr (by omega))
  rw [show a + (k - a) = k by omega] at this
  exact rows_at this (Nat.zero_le _) (by omega)
theorem msz_none {k : Nat} (h : 307 ≤ k) : msz k = 0 := by
  have hb : Nat.beq k 306 = false := by
    cases e : Nat.beq k 306 with
    | false => rfl
    | true => have := Nat.eq_of_beq_eq_true e; omega
  unfold msz
  rw [Nat.ble_eq_true_of_le (show 153 ≤ k by omega)]
  dsimp only [cond]
  rw [Nat.ble_eq_true_of_le (show 230 ≤ k by omega)]
  dsimp only [cond]
  rw [Nat.ble_eq_true_of_le (show 268 ≤ k by omega)]
  dsimp only [cond]
  rw [Nat.ble_eq_true_of_le (show 287 ≤ k by omega)]
  dsimp only [cond]
  rw [Nat.ble_eq_true_of_le (show 297 ≤ k by omega)]
  dsimp only [cond]
  rw [Nat.ble_eq_true_of_le (show 302 ≤ k by omega)]
  dsimp only [cond]
  rw [Nat.ble_eq_true_of_le (show 304 ≤ k by omega)]
  dsimp only [cond]
  rw [Nat.ble_eq_true_of_le (show 305 ≤ k by omega)]
  dsimp only [cond]
  rw [Nat.ble_eq_true_of_le (show 306 ≤ k by omega)]
  dsimp only [cond]
  rw [hb]
theorem rowOK (k pc : Nat) : (fe k pc).2.1 = 0 ∨ (fe k pc = fkk k pc ∧ rowChk k pc = true) := by
  unfold fe
  cases e : Nat.ble (msz k) pc with
  | true => exact Or.inl rfl
  | false =>
    refine Or.inr ⟨rfl, ?_⟩
    have hp : pc < msz k := Nat.lt_of_not_le (fun q => by rw [Nat.ble_eq_true_of_le q] at e; cases e)
    by_cases h : 307 ≤ k
    · rw [msz_none h] at hp; omega
    by_cases h0 : k < 14
    · exact rows_of ck_0 (by omega) (by omega) hp
    by_cases h1 : k < 27
    · exact rows_of ck_1 (by omega) (by omega) hp
    by_cases h2 : k < 37
    · exact rows_of ck_2 (by omega) (by omega) hp
    by_cases h3 : k < 57
    · exact rows_of ck_3 (by omega) (by omega) hp
    by_cases h4 : k < 64
    · exact rows_of ck_4 (by omega) (by omega) hp
    by_cases h5 : k < 77
    · exact rows_of ck_5 (by omega) (by omega) hp
    by_cases h6 : k < 92
    · exact rows_of ck_6 (by omega) (by omega) hp
    by_cases h7 : k < 103
    · exact rows_of ck_7 (by omega) (by omega) hp
    by_cases h8 : k < 114
    · exact rows_of ck_8 (by omega) (by omega) hp
    by_cases h9 : k < 131
    · exact rows_of ck_9 (by omega) (by omega) hp
    by_cases h10 : k < 144
    · exact rows_of ck_10 (by omega) (by omega) hp
    by_cases h11 : k < 151
    · exact rows_of ck_11 (by omega) (by omega) hp
    by_cases h12 : k < 167
    · exact rows_of ck_12 (by omega) (by omega) hp
    by_cases h13 : k < 168
    · exact rows_of ck_13 (by omega) (by omega) hp
    by_cases h14 : k < 185
    · exact rows_of ck_14 (by omega) (by omega) hp
    by_cases h15 : k < 194
    · exact rows_of ck_15 (by omega) (by omega) hp
    by_cases h16 : k < 199
    · exact rows_of ck_16 (by omega) (by omega) hp
    by_cases h17 : k < 204
    · exact rows_of ck_17 (by omega) (by omega) hp
    by_cases h18 : k < 213
    · exact rows_of ck_18 (by omega) (by omega) hp
    by_cases h19 : k < 224
    · exact rows_of ck_19 (by omega) (by omega) hp
    by_cases h20 : k < 228
    · exact rows_of ck_20 (by omega) (by omega) hp
    by_cases h21 : k < 231
    · exact rows_of ck_21 (by omega) (by omega) hp
    by_cases h22 : k < 237
    · exact rows_of ck_22 (by omega) (by omega) hp
    by_cases h23 : k < 245
    · exact rows_of ck_23 (by omega) (by omega) hp
    by_cases h24 : k < 249
    · exact rows_of ck_24 (by omega) (by omega) hp
    by_cases h25 : k < 252
    · exact rows_of ck_25 (by omega) (by omega) hp
    by_cases h26 : k < 254
    · exact rows_of ck_26 (by omega) (by omega) hp
    by_cases h27 : k < 260
    · exact rows_of ck_27 (by omega) (by omega) hp
    by_cases h28 : k < 267
    · exact rows_of ck_28 (by omega) (by omega) hp
    by_cases h29 : k < 294
    · exact rows_of ck_29 (by omega) (by omega) hp
    by_cases h30 : k < 306
    · exact rows_of ck_30 (by omega) (by omega) hp
    have hk : k = 306 := by omega
    subst hk
    have hm : msz 306 = 3354 := by decide +kernel
    rw [hm] at hp
    clear h h0 h1 h2 h3 h4 h5 h6 h7 h8 h9 h10 h11 h12 h13 h14 h15 h16 h17 h18 h19 h20 h21 h22 h23 h24 h25 h26 h27 h28 h29 h30
    by_cases g0 : pc < 430
    · exact rows_at ce_0 (by omega) (by omega)
    by_cases g1 : pc < 584
    · exact rows_at ce_1 (by omega) (by omega)
    by_cases g2 : pc < 710
    · exact rows_at ce_2 (by omega) (by omega)
    by_cases g3 : pc < 815
    · exact rows_at ce_3 (by omega) (by omega)
    by_cases g4 : pc < 905
    · exact rows_at ce_4 (by omega) (by omega)
    by_cases g5 : pc < 990
    · exact rows_at ce_5 (by omega) (by omega)
    by_cases g6 : pc < 1070
    · exact rows_at ce_6 (by omega) (by omega)
    by_cases g7 : pc < 1145
    · exact rows_at ce_7 (by omega) (by omega)
    by_cases g8 : pc < 1210
    · exact rows_at ce_8 (by omega) (by omega)
    by_cases g9 : pc < 1274
    · exact rows_at ce_9 (by omega) (by omega)
    by_cases g10 : pc < 1339
    · exact rows_at ce_10 (by omega) (by omega)
    by_cases g11 : pc < 1404
    · exact rows_at ce_11 (by omega) (by omega)
    by_cases g12 : pc < 1457
    · exact rows_at ce_12 (by omega) (by omega)
    by_cases g13 : pc < 1518
    · exact rows_at ce_13 (by omega) (by omega)
    by_cases g14 : pc < 1574
    · exact rows_at ce_14 (by omega) (by omega)
    by_cases g15 : pc < 1628
    · exact rows_at ce_15 (by omega) (by omega)
    by_cases g16 : pc < 1676
    · exact rows_at ce_16 (by omega) (by omega)
    by_cases g17 : pc < 1732
    · exact rows_at ce_17 (by omega) (by omega)
    by_cases g18 : pc < 1776
    · exact rows_at ce_18 (by omega) (by omega)
    by_cases g19 : pc < 1835
    · exact rows_at ce_19 (by omega) (by omega)
    by_cases g20 : pc < 1878
    · exact rows_at ce_20 (by omega) (by omega)
    by_cases g21 : pc < 1925
    · exact rows_at ce_21 (by omega) (by omega)
    by_cases g22 : pc < 1967
    · exact rows_at ce_22 (by omega) (by omega)
    by_cases g23 : pc < 2011
    · exact rows_at ce_23 (by omega) (by omega)
    by_cases g24 : pc < 2048
    · exact rows_at ce_24 (by omega) (by omega)
    by_cases g25 : pc < 2091
    · exact rows_at ce_25 (by omega) (by omega)
    by_cases g26 : pc < 2130
    · exact rows_at ce_26 (by omega) (by omega)
    by_cases g27 : pc < 2171
    · exact rows_at ce_27 (by omega) (by omega)
    by_cases g28 : pc < 2206
    · exact rows_at ce_28 (by omega) (by omega)
    by_cases g29 : pc < 2243
    · exact rows_at ce_29 (by omega) (by omega)
    by_cases g30 : pc < 2276
    · exact rows_at ce_30 (by omega) (by omega)
    by_cases g31 : pc < 2319
    · exact rows_at ce_31 (by omega) (by omega)
    by_cases g32 : pc < 2358
    · exact rows_at ce_32 (by omega) (by omega)
    by_cases g33 : pc < 2393
    · exact rows_at ce_33 (by omega) (by omega)
    by_cases g34 : pc < 2425
    · exact rows_at ce_34 (by omega) (by omega)
    by_cases g35 : pc < 2463
    · exact rows_at ce_35 (by omega) (by omega)
    by_cases g36 : pc < 2501
    · exact rows_at ce_36 (by omega) (by omega)
    by_cases g37 : pc < 2541
    · exact rows_at ce_37 (by omega) (by omega)
    by_cases g38 : pc < 2571
    · exact rows_at ce_38 (by omega) (by omega)
    by_cases g39 : pc < 2609
    · exact rows_at ce_39 (by omega) (by omega)
    by_cases g40 : pc < 2640
    · exact rows_at ce_40 (by omega) (by omega)
    by_cases g41 : pc < 2673
    · exact rows_at ce_41 (by omega) (by omega)
    by_cases g42 : pc < 2705
    · exact rows_at ce_42 (by omega) (by omega)
    by_cases g43 : pc < 2733
    · exact rows_at ce_43 (by omega) (by omega)
    by_cases g44 : pc < 2766
    · exact rows_at ce_44 (by omega) (by omega)
    by_cases g45 : pc < 2797
    · exact rows_at ce_45 (by omega) (by omega)
    by_cases g46 : pc < 2824
    · exact rows_at ce_46 (by omega) (by omega)
    by_cases g47 : pc < 2858
    · exact rows_at ce_47 (by omega) (by omega)
    by_cases g48 : pc < 2891
    · exact rows_at ce_48 (by omega) (by omega)
    by_cases g49 : pc < 2926
    · exact rows_at ce_49 (by omega) (by omega)
    by_cases g50 : pc < 2950
    · exact rows_at ce_50 (by omega) (by omega)
    by_cases g51 : pc < 2976
    · exact rows_at ce_51 (by omega) (by omega)
    by_cases g52 : pc < 3006
    · exact rows_at ce_52 (by omega) (by omega)
    by_cases g53 : pc < 3036
    · exact rows_at ce_53 (by omega) (by omega)
    by_cases g54 : pc < 3062
    · exact rows_at ce_54 (by omega) (by omega)
    by_cases g55 : pc < 3088
    · exact rows_at ce_55 (by omega) (by omega)
    by_cases g56 : pc < 3120
    · exact rows_at ce_56 (by omega) (by omega)
    by_cases g57 : pc < 3145
    · exact rows_at ce_57 (by omega) (by omega)
    by_cases g58 : pc < 3173
    · exact rows_at ce_58 (by omega) (by omega)
    by_cases g59 : pc < 3203
    · exact rows_at ce_59 (by omega) (by omega)
    by_cases g60 : pc < 3234
    · exact rows_at ce_60 (by omega) (by omega)
    by_cases g61 : pc < 3262
    · exact rows_at ce_61 (by omega) (by omega)
    by_cases g62 : pc < 3286
    · exact rows_at ce_62 (by omega) (by omega)
    by_cases g63 : pc < 3318
    · exact rows_at ce_63 (by omega) (by omega)
    by_cases g64 : pc < 3346
    · exact rows_at ce_64 (by omega) (by omega)
    by_cases g65 : pc < 3354
    · exact rows_at ce_65 (by omega) (by omega)
    omega
