/-! every row, at every place -/
theorem rows_at {k a n : Nat} (h : rowsChk k a n = true) {pc : Nat} (h1 : a ≤ pc) (h2 : pc < a + n) : rowChk k pc = true := by
  have := List.all_eq_true.mp h (pc - a) (List.mem_range.mpr (by omega))
  rw [show a + (pc - a) = pc by omega] at this
  exact this
theorem rows_of {a n : Nat} (h : (List.range n).all (fun k => rowsChk (a + k) 0 (msz (a + k))) = true) {k pc : Nat} (h1 : a ≤ k) (h2 : k < a + n) (h3 : pc < msz k) : rowChk k pc = true := by
  have := List.all_eq_true.mp h (k - a) (List.mem_range.mpr (by omega))
  rw [show a + (k - a) = k by omega] at this
  exact rows_at this (Nat.zero_le _) (by omega)
theorem msz_none {k : Nat} (h : 307 ≤ k) : msz k = 0 := by
  have hb : Nat.beq k 306 = false := by
    cases e : Nat.beq k 306 with
    | false => rfl
    | true => have := Nat.eq_of_beq_eq_true e; omega
  unfold msz
  rw [Nat.ble_eq_true_of_le (show 153 ≤ k by omega)]
  dsimp only [cond]
  rw [Nat.ble_eq_true_of_le (show 230 ≤ k by omega)]
  dsimp only [cond]
  rw [Nat.ble_eq_true_of_le (show 268 ≤ k by omega)]
  dsimp only [cond]
  rw [Nat.ble_eq_true_of_le (show 287 ≤ k by omega)]
  dsimp only [cond]
  rw [Nat.ble_eq_true_of_le (show 297 ≤ k by omega)]
  dsimp only [cond]
  rw [Nat.ble_eq_true_of_le (show 302 ≤ k by omega)]
  dsimp only [cond]
  rw [Nat.ble_eq_true_of_le (show 304 ≤ k by omega)]
  dsimp only [cond]
  rw [Nat.ble_eq_true_of_le (show 305 ≤ k by omega)]
  dsimp only [cond]
  rw [Nat.ble_eq_true_of_le (show 306 ≤ k by omega)]
  dsimp only [cond]
  rw [hb]
theorem rowOK (k pc : Nat) : (fe k pc).2.1 = 0 ∨ (fe k pc = fkk k pc ∧ rowChk k pc = true) := by
  unfold fe
  cases e : Nat.ble (msz k) pc with
  | true => exact Or.inl rfl
  | false =>
    refine Or.inr ⟨rfl, ?_⟩
    have hp : pc < msz k := Nat.lt_of_not_le (fun q => by rw [Nat.ble_eq_true_of_le q] at e; cases e)
    by_cases h : 307 ≤ k
    · rw [msz_none h] at hp; omega
    by_cases h0 : k < 79
    · exact rows_of ck_0 (by omega) (by omega) hp
    by_cases h1 : k < 164
    · exact rows_of ck_1 (by omega) (by omega) hp
    by_cases h2 : k < 240
    · exact rows_of ck_2 (by omega) (by omega) hp
    by_cases h3 : k < 306
    · exact rows_of ck_3 (by omega) (by omega) hp
    have hk : k = 306 := by omega
    subst hk
    have hm : msz 306 = 3354 := by decide +kernel
    rw [hm] at hp
    by_cases g0 : pc < 240
    · exact rows_at ce_0 (by omega) (by omega)
    by_cases g1 : pc < 480
    · exact rows_at ce_1 (by omega) (by omega)
    by_cases g2 : pc < 720
    · exact rows_at ce_2 (by omega) (by omega)
    by_cases g3 : pc < 960
    · exact rows_at ce_3 (by omega) (by omega)
    by_cases g4 : pc < 1200
    · exact rows_at ce_4 (by omega) (by omega)
    by_cases g5 : pc < 1440
    · exact rows_at ce_5 (by omega) (by omega)
    by_cases g6 : pc < 1680
    · exact rows_at ce_6 (by omega) (by omega)
    by_cases g7 : pc < 1920
    · exact rows_at ce_7 (by omega) (by omega)
    by_cases g8 : pc < 2160
    · exact rows_at ce_8 (by omega) (by omega)
    by_cases g9 : pc < 2400
    · exact rows_at ce_9 (by omega) (by omega)
    by_cases g10 : pc < 2640
    · exact rows_at ce_10 (by omega) (by omega)
    by_cases g11 : pc < 2880
    · exact rows_at ce_11 (by omega) (by omega)
    by_cases g12 : pc < 3120
    · exact rows_at ce_12 (by omega) (by omega)
    by_cases g13 : pc < 3354
    · exact rows_at ce_13 (by omega) (by omega)
    omega
