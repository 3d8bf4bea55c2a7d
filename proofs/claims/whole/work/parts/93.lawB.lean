/-! THE LAW: the 41 cases (printed by wip/whole/genlaw.py) -/
theorem lcm_s {x : Int64} : obl (lg_cmp x x = nI 0) = true := by rw [lgEq]; exact obl_t rfl

set_option maxRecDepth 100000 in
theorem case_0 {d : Nat} {σ : PS} {a4 : Int32} {z5 z6 z7 : Option Value} (hd : 64 ≤ d) (hI : Inv σ) (b1 : inb (a4 + (nI 1)) (xL (XX σ)) = true) (b2 : inb (a4 + (nI 2)) (xL (XX σ)) = true) (b3 : inb (a4 + (nI 3)) (xL (XX σ)) = true) (b4 : inb (a4 + (nI 4)) (xL (XX σ)) = true) (b5 : inb (a4 + (nI 5)) (xL (XX σ)) = true) (b6 : inb (a4 + (nI 6)) (xL (XX σ)) = true) (b7 : inb (a4 + (nI 7)) (xL (XX σ)) = true) : ∃ y5 y6 y7 τ, Run false (d + 2) 306 220 [some (.ref 999), some (.ref 0), some (.ref 85), some (.ref 145), some (.int a4), z5, z6, z7] [] σ = Run false (d + 2) 306 3346 [some (.ref 999), some (.ref 0), some (.ref 85), some (.ref 145), some (.int a4), y5, y6, y7] [] τ ∧ Inv τ ∧ Kp σ τ := by
  obtain ⟨k, σ1, v, σ2, h1, h2, h3, h4, h5, h6, h7, h8⟩ := law_two (opD_of (op_years hI (AI σ 999 (a4 + (nI 1)).toNatClampNeg)) (show 40 ≤ 64 by decide)) (w268 (AI σ 999 (a4 + (nI 1)).toNatClampNeg)) (fun d σ o h => Run_kS h) (d := d) (e := d + 1) (by omega) (by omega)
  obtain ⟨x, rfl⟩ := h3
  try dsimp only at h1 h4
  have q1 : xL (XX σ1) = xL (XX σ) := h2.1
  have q2 : AI σ1 999 = AI σ 999 := h2.2.1
  refine ⟨some (.int k), some (.int x), z7, σ2, ?_, h5, h6⟩
  rw [s306_220, b1, cond_true, h1, aft_v, s306_231, q1, q2, b1, cond_true, h4, aft_v, s306_243, s164_0, aft_v, s306_249, h7, obl_t rfl, cond_true]
  by_cases hk : k = nI 0
  · rw [obl_t hk, cond_true, ib0, cond_true, clp0, h8 hk]
    rw [show w64 (.int x) = x.toInt64 from rfl, lcm_s, cond_true]
  · rw [obl_f hk, cond_false]

set_option maxRecDepth 100000 in
theorem case_1 {d : Nat} {σ : PS} {a4 : Int32} {z5 z6 z7 : Option Value} (hd : 64 ≤ d) (hI : Inv σ) (b1 : inb (a4 + (nI 1)) (xL (XX σ)) = true) (b2 : inb (a4 + (nI 2)) (xL (XX σ)) = true) (b3 : inb (a4 + (nI 3)) (xL (XX σ)) = true) (b4 : inb (a4 + (nI 4)) (xL (XX σ)) = true) (b5 : inb (a4 + (nI 5)) (xL (XX σ)) = true) (b6 : inb (a4 + (nI 6)) (xL (XX σ)) = true) (b7 : inb (a4 + (nI 7)) (xL (XX σ)) = true) : ∃ y5 y6 y7 τ, Run false (d + 2) 306 276 [some (.ref 999), some (.ref 0), some (.ref 85), some (.ref 145), some (.int a4), z5, z6, z7] [] σ = Run false (d + 2) 306 3346 [some (.ref 999), some (.ref 0), some (.ref 85), some (.ref 145), some (.int a4), y5, y6, y7] [] τ ∧ Inv τ ∧ Kp σ τ := by
  obtain ⟨v, σ1, σ2, h1, h2, h3, h4, h5, h6⟩ := law_one (opD_of ((op_feed (a1 := (AI σ 999 (a4 + (nI 1)).toNatClampNeg)) (a2 := (AI σ 999 (a4 + (nI 2)).toNatClampNeg)) (a3 := (AI σ 999 (a4 + (nI 3)).toNatClampNeg)) (a4 := (AI σ 999 (a4 + (nI 4)).toNatClampNeg)) (a5 := (AI σ 999 (a4 + (nI 5)).toNatClampNeg)) hI)) (show 40 ≤ 64 by decide)) (fun d σ o h => Run_kS h) (d := d + 1) (e := d + 1) (by omega) (by omega)
  obtain ⟨x, rfl⟩ := h3
  try dsimp only at h1 h4
  have q1 : xL (XX σ1) = xL (XX σ) := h2.1
  have q2 : AI σ1 999 = AI σ 999 := h2.2.1
  refine ⟨z5, z6, z7, σ2, ?_, h5, h6⟩
  rw [s306_276, b1, cond_true, b2, cond_true, b3, cond_true, b4, cond_true, b5, cond_true, h1, aft_v, s306_310, q1, q2, b1, cond_true, b2, cond_true, b3, cond_true, b4, cond_true, b5, cond_true, h4, aft_v, s306_344, obl_t rfl, cond_true]

set_option maxRecDepth 100000 in
theorem case_2 {d : Nat} {σ : PS} {a4 : Int32} {z5 z6 z7 : Option Value} (hd : 64 ≤ d) (hI : Inv σ) (b1 : inb (a4 + (nI 1)) (xL (XX σ)) = true) (b2 : inb (a4 + (nI 2)) (xL (XX σ)) = true) (b3 : inb (a4 + (nI 3)) (xL (XX σ)) = true) (b4 : inb (a4 + (nI 4)) (xL (XX σ)) = true) (b5 : inb (a4 + (nI 5)) (xL (XX σ)) = true) (b6 : inb (a4 + (nI 6)) (xL (XX σ)) = true) (b7 : inb (a4 + (nI 7)) (xL (XX σ)) = true) : ∃ y5 y6 y7 τ, Run false (d + 2) 306 349 [some (.ref 999), some (.ref 0), some (.ref 85), some (.ref 145), some (.int a4), z5, z6, z7] [] σ = Run false (d + 2) 306 3346 [some (.ref 999), some (.ref 0), some (.ref 85), some (.ref 145), some (.int a4), y5, y6, y7] [] τ ∧ Inv τ ∧ Kp σ τ := by
  obtain ⟨k, σ1, v, σ2, h1, h2, h3, h4, h5, h6, h7, h8⟩ := law_two (op_law hI (AI σ 999 (a4 + (nI 1)).toNatClampNeg) (AI σ 999 (a4 + (nI 2)).toNatClampNeg)) (w269 (AI σ 999 (a4 + (nI 1)).toNatClampNeg) (AI σ 999 (a4 + (nI 2)).toNatClampNeg)) (fun d σ o h => Run_kS h) (d := d) (e := d + 1) (by omega) (by omega)
  obtain ⟨x, rfl⟩ := h3
  try dsimp only at h1 h4
  have q1 : xL (XX σ1) = xL (XX σ) := h2.1
  have q2 : AI σ1 999 = AI σ 999 := h2.2.1
  refine ⟨some (.int k), some (.int x), z7, σ2, ?_, h5, h6⟩
  rw [s306_349, b1, cond_true, b2, cond_true, h1, aft_v, s306_366, q1, q2, b1, cond_true, b2, cond_true, h4, aft_v, s306_384, s164_0, aft_v, s306_390, h7, obl_t rfl, cond_true]
  by_cases hk : k = nI 0
  · rw [obl_t hk, cond_true, ib0, cond_true, clp0, h8 hk]
    rw [show w64 (.int x) = x.toInt64 from rfl, lcm_s, cond_true]
  · rw [obl_f hk, cond_false]

set_option maxRecDepth 100000 in
theorem case_3 {d : Nat} {σ : PS} {a4 : Int32} {z5 z6 z7 : Option Value} (hd : 64 ≤ d) (hI : Inv σ) (b1 : inb (a4 + (nI 1)) (xL (XX σ)) = true) (b2 : inb (a4 + (nI 2)) (xL (XX σ)) = true) (b3 : inb (a4 + (nI 3)) (xL (XX σ)) = true) (b4 : inb (a4 + (nI 4)) (xL (XX σ)) = true) (b5 : inb (a4 + (nI 5)) (xL (XX σ)) = true) (b6 : inb (a4 + (nI 6)) (xL (XX σ)) = true) (b7 : inb (a4 + (nI 7)) (xL (XX σ)) = true) : ∃ y5 y6 y7 τ, Run false (d + 2) 306 417 [some (.ref 999), some (.ref 0), some (.ref 85), some (.ref 145), some (.int a4), z5, z6, z7] [] σ = Run false (d + 2) 306 3346 [some (.ref 999), some (.ref 0), some (.ref 85), some (.ref 145), some (.int a4), y5, y6, y7] [] τ ∧ Inv τ ∧ Kp σ τ := by
  obtain ⟨v, σ1, σ2, h1, h2, h3, h4, h5, h6⟩ := law_one (opD_of (op_fault hI) (show 40 ≤ 64 by decide)) (fun d σ o h => Run_kS h) (d := d + 1) (e := d + 1) (by omega) (by omega)
  obtain ⟨x, rfl⟩ := h3
  try dsimp only at h1 h4
  have q1 : xL (XX σ1) = xL (XX σ) := h2.1
  have q2 : AI σ1 999 = AI σ 999 := h2.2.1
  refine ⟨z5, z6, z7, σ2, ?_, h5, h6⟩
  rw [s306_417, h1, aft_v, s306_421, h4, aft_v, s306_425, obl_t rfl, cond_true]

set_option maxRecDepth 100000 in
theorem case_4 {d : Nat} {σ : PS} {a4 : Int32} {z5 z6 z7 : Option Value} (hd : 64 ≤ d) (hI : Inv σ) (b1 : inb (a4 + (nI 1)) (xL (XX σ)) = true) (b2 : inb (a4 + (nI 2)) (xL (XX σ)) = true) (b3 : inb (a4 + (nI 3)) (xL (XX σ)) = true) (b4 : inb (a4 + (nI 4)) (xL (XX σ)) = true) (b5 : inb (a4 + (nI 5)) (xL (XX σ)) = true) (b6 : inb (a4 + (nI 6)) (xL (XX σ)) = true) (b7 : inb (a4 + (nI 7)) (xL (XX σ)) = true) : ∃ y5 y6 y7 τ, Run false (d + 2) 306 430 [some (.ref 999), some (.ref 0), some (.ref 85), some (.ref 145), some (.int a4), z5, z6, z7] [] σ = Run false (d + 2) 306 3346 [some (.ref 999), some (.ref 0), some (.ref 85), some (.ref 145), some (.int a4), y5, y6, y7] [] τ ∧ Inv τ ∧ Kp σ τ := by
  obtain ⟨k, σ1, v, σ2, h1, h2, h3, h4, h5, h6, h7, h8⟩ := law_two (opD_of (op_tells hI (AI σ 999 (a4 + (nI 1)).toNatClampNeg) (AI σ 999 (a4 + (nI 2)).toNatClampNeg) (AI σ 999 (a4 + (nI 3)).toNatClampNeg)) (show 40 ≤ 64 by decide)) (w270 (AI σ 999 (a4 + (nI 1)).toNatClampNeg) (AI σ 999 (a4 + (nI 2)).toNatClampNeg) (AI σ 999 (a4 + (nI 3)).toNatClampNeg)) (fun d σ o h => Run_kS h) (d := d) (e := d + 1) (by omega) (by omega)
  obtain ⟨x, rfl⟩ := h3
  try dsimp only at h1 h4
  have q1 : xL (XX σ1) = xL (XX σ) := h2.1
  have q2 : AI σ1 999 = AI σ 999 := h2.2.1
  refine ⟨some (.int k), some (.int x), z7, σ2, ?_, h5, h6⟩
  rw [s306_430, b1, cond_true, b2, cond_true, b3, cond_true, h1, aft_v, s306_453, q1, q2, b1, cond_true, b2, cond_true, b3, cond_true, h4, aft_v, s306_477, s164_0, aft_v, s306_483, h7, obl_t rfl, cond_true]
  by_cases hk : k = nI 0
  · rw [obl_t hk, cond_true, ib0, cond_true, clp0, h8 hk]
    rw [show w64 (.int x) = x.toInt64 from rfl, lcm_s, cond_true]
  · rw [obl_f hk, cond_false]

set_option maxRecDepth 100000 in
theorem case_5 {d : Nat} {σ : PS} {a4 : Int32} {z5 z6 z7 : Option Value} (hd : 64 ≤ d) (hI : Inv σ) (b1 : inb (a4 + (nI 1)) (xL (XX σ)) = true) (b2 : inb (a4 + (nI 2)) (xL (XX σ)) = true) (b3 : inb (a4 + (nI 3)) (xL (XX σ)) = true) (b4 : inb (a4 + (nI 4)) (xL (XX σ)) = true) (b5 : inb (a4 + (nI 5)) (xL (XX σ)) = true) (b6 : inb (a4 + (nI 6)) (xL (XX σ)) = true) (b7 : inb (a4 + (nI 7)) (xL (XX σ)) = true) : ∃ y5 y6 y7 τ, Run false (d + 2) 306 510 [some (.ref 999), some (.ref 0), some (.ref 85), some (.ref 145), some (.int a4), z5, z6, z7] [] σ = Run false (d + 2) 306 3346 [some (.ref 999), some (.ref 0), some (.ref 85), some (.ref 145), some (.int a4), y5, y6, y7] [] τ ∧ Inv τ ∧ Kp σ τ := by
  obtain ⟨k, σ1, v, σ2, h1, h2, h3, h4, h5, h6, h7, h8⟩ := law_two (opD_of (op_why hI (AI σ 999 (a4 + (nI 1)).toNatClampNeg) (AI σ 999 (a4 + (nI 2)).toNatClampNeg)) (show 40 ≤ 64 by decide)) (w271 (AI σ 999 (a4 + (nI 1)).toNatClampNeg) (AI σ 999 (a4 + (nI 2)).toNatClampNeg)) (fun d σ o h => Run_kS h) (d := d) (e := d + 1) (by omega) (by omega)
  obtain ⟨x, rfl⟩ := h3
  try dsimp only at h1 h4
  have q1 : xL (XX σ1) = xL (XX σ) := h2.1
  have q2 : AI σ1 999 = AI σ 999 := h2.2.1
  refine ⟨some (.int k), some (.int x), z7, σ2, ?_, h5, h6⟩
  rw [s306_510, b1, cond_true, b2, cond_true, h1, aft_v, s306_527, q1, q2, b1, cond_true, b2, cond_true, h4, aft_v, s306_545, s164_0, aft_v, s306_551, h7, obl_t rfl, cond_true]
  by_cases hk : k = nI 0
  · rw [obl_t hk, cond_true, ib0, cond_true, clp0, h8 hk]
    rw [show w64 (.int x) = x.toInt64 from rfl, lcm_s, cond_true]
  · rw [obl_f hk, cond_false]

set_option maxRecDepth 100000 in
theorem case_6 {d : Nat} {σ : PS} {a4 : Int32} {z5 z6 z7 : Option Value} (hd : 64 ≤ d) (hI : Inv σ) (b1 : inb (a4 + (nI 1)) (xL (XX σ)) = true) (b2 : inb (a4 + (nI 2)) (xL (XX σ)) = true) (b3 : inb (a4 + (nI 3)) (xL (XX σ)) = true) (b4 : inb (a4 + (nI 4)) (xL (XX σ)) = true) (b5 : inb (a4 + (nI 5)) (xL (XX σ)) = true) (b6 : inb (a4 + (nI 6)) (xL (XX σ)) = true) (b7 : inb (a4 + (nI 7)) (xL (XX σ)) = true) : ∃ y5 y6 y7 τ, Run false (d + 2) 306 578 [some (.ref 999), some (.ref 0), some (.ref 85), some (.ref 145), some (.int a4), z5, z6, z7] [] σ = Run false (d + 2) 306 3346 [some (.ref 999), some (.ref 0), some (.ref 85), some (.ref 145), some (.int a4), y5, y6, y7] [] τ ∧ Inv τ ∧ Kp σ τ := by
  obtain ⟨k, σ1, v, σ2, h1, h2, h3, h4, h5, h6, h7, h8⟩ := law_two (opD_of (op_maker hI) (show 40 ≤ 64 by decide)) (w272) (fun d σ o h => Run_kS h) (d := d) (e := d + 1) (by omega) (by omega)
  obtain ⟨x, rfl⟩ := h3
  try dsimp only at h1 h4
  have q1 : xL (XX σ1) = xL (XX σ) := h2.1
  have q2 : AI σ1 999 = AI σ 999 := h2.2.1
  refine ⟨some (.int k), some (.int x), z7, σ2, ?_, h5, h6⟩
  rw [s306_578, h1, aft_v, s306_583, h4, aft_v, s306_589, s164_0, aft_v, s306_595, h7, obl_t rfl, cond_true]
  by_cases hk : k = nI 0
  · rw [obl_t hk, cond_true, ib0, cond_true, clp0, h8 hk]
    rw [show w64 (.int x) = x.toInt64 from rfl, lcm_s, cond_true]
  · rw [obl_f hk, cond_false]

set_option maxRecDepth 100000 in
theorem case_7 {d : Nat} {σ : PS} {a4 : Int32} {z5 z6 z7 : Option Value} (hd : 64 ≤ d) (hI : Inv σ) (b1 : inb (a4 + (nI 1)) (xL (XX σ)) = true) (b2 : inb (a4 + (nI 2)) (xL (XX σ)) = true) (b3 : inb (a4 + (nI 3)) (xL (XX σ)) = true) (b4 : inb (a4 + (nI 4)) (xL (XX σ)) = true) (b5 : inb (a4 + (nI 5)) (xL (XX σ)) = true) (b6 : inb (a4 + (nI 6)) (xL (XX σ)) = true) (b7 : inb (a4 + (nI 7)) (xL (XX σ)) = true) : ∃ y5 y6 y7 τ, Run false (d + 2) 306 622 [some (.ref 999), some (.ref 0), some (.ref 85), some (.ref 145), some (.int a4), z5, z6, z7] [] σ = Run false (d + 2) 306 3346 [some (.ref 999), some (.ref 0), some (.ref 85), some (.ref 145), some (.int a4), y5, y6, y7] [] τ ∧ Inv τ ∧ Kp σ τ := by
  obtain ⟨k, σ1, v, σ2, h1, h2, h3, h4, h5, h6, h7, h8⟩ := law_two (opD_of (op_packet hI (AI σ 999 (a4 + (nI 1)).toNatClampNeg)) (show 40 ≤ 64 by decide)) (w273 (AI σ 999 (a4 + (nI 1)).toNatClampNeg)) (fun d σ o h => Run_kS h) (d := d) (e := d + 1) (by omega) (by omega)
  obtain ⟨x, rfl⟩ := h3
  try dsimp only at h1 h4
  have q1 : xL (XX σ1) = xL (XX σ) := h2.1
  have q2 : AI σ1 999 = AI σ 999 := h2.2.1
  refine ⟨some (.int k), some (.int x), z7, σ2, ?_, h5, h6⟩
  rw [s306_622, b1, cond_true, h1, aft_v, s306_633, q1, q2, b1, cond_true, h4, aft_v, s306_645, s164_0, aft_v, s306_651, h7, obl_t rfl, cond_true]
  by_cases hk : k = nI 0
  · rw [obl_t hk, cond_true, ib0, cond_true, clp0, h8 hk]
    rw [show w64 (.int x) = x.toInt64 from rfl, lcm_s, cond_true]
  · rw [obl_f hk, cond_false]

set_option maxRecDepth 100000 in
theorem case_8 {d : Nat} {σ : PS} {a4 : Int32} {z5 z6 z7 : Option Value} (hd : 64 ≤ d) (hI : Inv σ) (b1 : inb (a4 + (nI 1)) (xL (XX σ)) = true) (b2 : inb (a4 + (nI 2)) (xL (XX σ)) = true) (b3 : inb (a4 + (nI 3)) (xL (XX σ)) = true) (b4 : inb (a4 + (nI 4)) (xL (XX σ)) = true) (b5 : inb (a4 + (nI 5)) (xL (XX σ)) = true) (b6 : inb (a4 + (nI 6)) (xL (XX σ)) = true) (b7 : inb (a4 + (nI 7)) (xL (XX σ)) = true) : ∃ y5 y6 y7 τ, Run false (d + 2) 306 678 [some (.ref 999), some (.ref 0), some (.ref 85), some (.ref 145), some (.int a4), z5, z6, z7] [] σ = Run false (d + 2) 306 3346 [some (.ref 999), some (.ref 0), some (.ref 85), some (.ref 145), some (.int a4), y5, y6, y7] [] τ ∧ Inv τ ∧ Kp σ τ := by
  obtain ⟨k, σ1, v, σ2, h1, h2, h3, h4, h5, h6, h7, h8⟩ := law_two (opD_of (op_make hI (AI σ 999 (a4 + (nI 1)).toNatClampNeg) (AI σ 999 (a4 + (nI 2)).toNatClampNeg) (AI σ 999 (a4 + (nI 3)).toNatClampNeg) (AI σ 999 (a4 + (nI 4)).toNatClampNeg) (AI σ 999 (a4 + (nI 5)).toNatClampNeg) (AI σ 999 (a4 + (nI 6)).toNatClampNeg) (AI σ 999 (a4 + (nI 7)).toNatClampNeg)) (show 40 ≤ 64 by decide)) (w274 (AI σ 999 (a4 + (nI 1)).toNatClampNeg) (AI σ 999 (a4 + (nI 2)).toNatClampNeg) (AI σ 999 (a4 + (nI 3)).toNatClampNeg) (AI σ 999 (a4 + (nI 4)).toNatClampNeg) (AI σ 999 (a4 + (nI 5)).toNatClampNeg) (AI σ 999 (a4 + (nI 6)).toNatClampNeg) (AI σ 999 (a4 + (nI 7)).toNatClampNeg)) (fun d σ o h => Run_kS h) (d := d) (e := d + 1) (by omega) (by omega)
  obtain ⟨x, rfl⟩ := h3
  try dsimp only at h1 h4
  have q1 : xL (XX σ1) = xL (XX σ) := h2.1
  have q2 : AI σ1 999 = AI σ 999 := h2.2.1
  refine ⟨some (.int k), some (.int x), z7, σ2, ?_, h5, h6⟩
  rw [s306_678, b1, cond_true, b2, cond_true, b3, cond_true, b4, cond_true, b5, cond_true, b6, cond_true, b7, cond_true, h1, aft_v, s306_727, q1, q2, b1, cond_true, b2, cond_true, b3, cond_true, b4, cond_true, b5, cond_true, b6, cond_true, b7, cond_true, h4, aft_v, s306_777, s164_0, aft_v, s306_783, h7, obl_t rfl, cond_true]
  by_cases hk : k = nI 0
  · rw [obl_t hk, cond_true, ib0, cond_true, clp0, h8 hk]
    rw [show w64 (.int x) = x.toInt64 from rfl, lcm_s, cond_true]
  · rw [obl_f hk, cond_false]

set_option maxRecDepth 100000 in
theorem case_9 {d : Nat} {σ : PS} {a4 : Int32} {z5 z6 z7 : Option Value} (hd : 64 ≤ d) (hI : Inv σ) (b1 : inb (a4 + (nI 1)) (xL (XX σ)) = true) (b2 : inb (a4 + (nI 2)) (xL (XX σ)) = true) (b3 : inb (a4 + (nI 3)) (xL (XX σ)) = true) (b4 : inb (a4 + (nI 4)) (xL (XX σ)) = true) (b5 : inb (a4 + (nI 5)) (xL (XX σ)) = true) (b6 : inb (a4 + (nI 6)) (xL (XX σ)) = true) (b7 : inb (a4 + (nI 7)) (xL (XX σ)) = true) : ∃ y5 y6 y7 τ, Run false (d + 2) 306 810 [some (.ref 999), some (.ref 0), some (.ref 85), some (.ref 145), some (.int a4), z5, z6, z7] [] σ = Run false (d + 2) 306 3346 [some (.ref 999), some (.ref 0), some (.ref 85), some (.ref 145), some (.int a4), y5, y6, y7] [] τ ∧ Inv τ ∧ Kp σ τ := by
  obtain ⟨k, σ1, v, σ2, h1, h2, h3, h4, h5, h6, h7, h8⟩ := law_two (opD_of (op_made hI (AI σ 999 (a4 + (nI 1)).toNatClampNeg) (AI σ 999 (a4 + (nI 2)).toNatClampNeg)) (show 40 ≤ 64 by decide)) (w275 (AI σ 999 (a4 + (nI 1)).toNatClampNeg) (AI σ 999 (a4 + (nI 2)).toNatClampNeg)) (fun d σ o h => Run_kS h) (d := d) (e := d + 1) (by omega) (by omega)
  obtain ⟨x, rfl⟩ := h3
  try dsimp only at h1 h4
  have q1 : xL (XX σ1) = xL (XX σ) := h2.1
  have q2 : AI σ1 999 = AI σ 999 := h2.2.1
  refine ⟨some (.int k), some (.int x), z7, σ2, ?_, h5, h6⟩
  rw [s306_810, b1, cond_true, b2, cond_true, h1, aft_v, s306_827, q1, q2, b1, cond_true, b2, cond_true, h4, aft_v, s306_845, s164_0, aft_v, s306_851, h7, obl_t rfl, cond_true]
  by_cases hk : k = nI 0
  · rw [obl_t hk, cond_true, ib0, cond_true, clp0, h8 hk]
    rw [show w64 (.int x) = x.toInt64 from rfl, lcm_s, cond_true]
  · rw [obl_f hk, cond_false]

set_option maxRecDepth 100000 in
theorem case_10 {d : Nat} {σ : PS} {a4 : Int32} {z5 z6 z7 : Option Value} (hd : 64 ≤ d) (hI : Inv σ) (b1 : inb (a4 + (nI 1)) (xL (XX σ)) = true) (b2 : inb (a4 + (nI 2)) (xL (XX σ)) = true) (b3 : inb (a4 + (nI 3)) (xL (XX σ)) = true) (b4 : inb (a4 + (nI 4)) (xL (XX σ)) = true) (b5 : inb (a4 + (nI 5)) (xL (XX σ)) = true) (b6 : inb (a4 + (nI 6)) (xL (XX σ)) = true) (b7 : inb (a4 + (nI 7)) (xL (XX σ)) = true) : ∃ y5 y6 y7 τ, Run false (d + 2) 306 878 [some (.ref 999), some (.ref 0), some (.ref 85), some (.ref 145), some (.int a4), z5, z6, z7] [] σ = Run false (d + 2) 306 3346 [some (.ref 999), some (.ref 0), some (.ref 85), some (.ref 145), some (.int a4), y5, y6, y7] [] τ ∧ Inv τ ∧ Kp σ τ := by
  obtain ⟨k, σ1, v, σ2, h1, h2, h3, h4, h5, h6, h7, h8⟩ := law_two (opD_of (op_sold hI (AI σ 999 (a4 + (nI 1)).toNatClampNeg) (AI σ 999 (a4 + (nI 2)).toNatClampNeg) (AI σ 999 (a4 + (nI 3)).toNatClampNeg) (AI σ 999 (a4 + (nI 4)).toNatClampNeg) (AI σ 999 (a4 + (nI 5)).toNatClampNeg)) (show 40 ≤ 64 by decide)) (w276 (AI σ 999 (a4 + (nI 1)).toNatClampNeg) (AI σ 999 (a4 + (nI 2)).toNatClampNeg) (AI σ 999 (a4 + (nI 3)).toNatClampNeg) (AI σ 999 (a4 + (nI 4)).toNatClampNeg) (AI σ 999 (a4 + (nI 5)).toNatClampNeg)) (fun d σ o h => Run_kS h) (d := d) (e := d + 1) (by omega) (by omega)
  obtain ⟨x, rfl⟩ := h3
  try dsimp only at h1 h4
  have q1 : xL (XX σ1) = xL (XX σ) := h2.1
  have q2 : AI σ1 999 = AI σ 999 := h2.2.1
  refine ⟨some (.int k), some (.int x), z7, σ2, ?_, h5, h6⟩
  rw [s306_878, b1, cond_true, b2, cond_true, b3, cond_true, b4, cond_true, b5, cond_true, h1, aft_v, s306_913, q1, q2, b1, cond_true, b2, cond_true, b3, cond_true, b4, cond_true, b5, cond_true, h4, aft_v, s306_949, s164_0, aft_v, s306_955, h7, obl_t rfl, cond_true]
  by_cases hk : k = nI 0
  · rw [obl_t hk, cond_true, ib0, cond_true, clp0, h8 hk]
    rw [show w64 (.int x) = x.toInt64 from rfl, lcm_s, cond_true]
  · rw [obl_f hk, cond_false]

set_option maxRecDepth 100000 in
theorem case_11 {d : Nat} {σ : PS} {a4 : Int32} {z5 z6 z7 : Option Value} (hd : 64 ≤ d) (hI : Inv σ) (b1 : inb (a4 + (nI 1)) (xL (XX σ)) = true) (b2 : inb (a4 + (nI 2)) (xL (XX σ)) = true) (b3 : inb (a4 + (nI 3)) (xL (XX σ)) = true) (b4 : inb (a4 + (nI 4)) (xL (XX σ)) = true) (b5 : inb (a4 + (nI 5)) (xL (XX σ)) = true) (b6 : inb (a4 + (nI 6)) (xL (XX σ)) = true) (b7 : inb (a4 + (nI 7)) (xL (XX σ)) = true) : ∃ y5 y6 y7 τ, Run false (d + 2) 306 982 [some (.ref 999), some (.ref 0), some (.ref 85), some (.ref 145), some (.int a4), z5, z6, z7] [] σ = Run false (d + 2) 306 3346 [some (.ref 999), some (.ref 0), some (.ref 85), some (.ref 145), some (.int a4), y5, y6, y7] [] τ ∧ Inv τ ∧ Kp σ τ := by
  obtain ⟨k, σ1, v, σ2, h1, h2, h3, h4, h5, h6, h7, h8⟩ := law_two (opD_of (op_kilos hI (AI σ 999 (a4 + (nI 1)).toNatClampNeg) (AI σ 999 (a4 + (nI 2)).toNatClampNeg) (AI σ 999 (a4 + (nI 3)).toNatClampNeg)) (show 40 ≤ 64 by decide)) (w277 (AI σ 999 (a4 + (nI 1)).toNatClampNeg) (AI σ 999 (a4 + (nI 2)).toNatClampNeg) (AI σ 999 (a4 + (nI 3)).toNatClampNeg)) (fun d σ o h => Run_kS h) (d := d) (e := d + 1) (by omega) (by omega)
  obtain ⟨x, rfl⟩ := h3
  try dsimp only at h1 h4
  have q1 : xL (XX σ1) = xL (XX σ) := h2.1
  have q2 : AI σ1 999 = AI σ 999 := h2.2.1
  refine ⟨some (.int k), some (.int x), z7, σ2, ?_, h5, h6⟩
  rw [s306_982, b1, cond_true, b2, cond_true, b3, cond_true, h1, aft_v, s306_1005, q1, q2, b1, cond_true, b2, cond_true, b3, cond_true, h4, aft_v, s306_1029, s164_0, aft_v, s306_1035, h7, obl_t rfl, cond_true]
  by_cases hk : k = nI 0
  · rw [obl_t hk, cond_true, ib0, cond_true, clp0, h8 hk]
    rw [show w64 (.int x) = x.toInt64 from rfl, lcm_s, cond_true]
  · rw [obl_f hk, cond_false]

set_option maxRecDepth 100000 in
theorem case_12 {d : Nat} {σ : PS} {a4 : Int32} {z5 z6 z7 : Option Value} (hd : 64 ≤ d) (hI : Inv σ) (b1 : inb (a4 + (nI 1)) (xL (XX σ)) = true) (b2 : inb (a4 + (nI 2)) (xL (XX σ)) = true) (b3 : inb (a4 + (nI 3)) (xL (XX σ)) = true) (b4 : inb (a4 + (nI 4)) (xL (XX σ)) = true) (b5 : inb (a4 + (nI 5)) (xL (XX σ)) = true) (b6 : inb (a4 + (nI 6)) (xL (XX σ)) = true) (b7 : inb (a4 + (nI 7)) (xL (XX σ)) = true) : ∃ y5 y6 y7 τ, Run false (d + 2) 306 1062 [some (.ref 999), some (.ref 0), some (.ref 85), some (.ref 145), some (.int a4), z5, z6, z7] [] σ = Run false (d + 2) 306 3346 [some (.ref 999), some (.ref 0), some (.ref 85), some (.ref 145), some (.int a4), y5, y6, y7] [] τ ∧ Inv τ ∧ Kp σ τ := by
  obtain ⟨k, σ1, v, σ2, h1, h2, h3, h4, h5, h6, h7, h8⟩ := law_two (opD_of (op_truly hI (AI σ 999 (a4 + (nI 1)).toNatClampNeg) (AI σ 999 (a4 + (nI 2)).toNatClampNeg) (AI σ 999 (a4 + (nI 3)).toNatClampNeg)) (show 40 ≤ 64 by decide)) (w278 (AI σ 999 (a4 + (nI 1)).toNatClampNeg) (AI σ 999 (a4 + (nI 2)).toNatClampNeg) (AI σ 999 (a4 + (nI 3)).toNatClampNeg)) (fun d σ o h => Run_kS h) (d := d) (e := d + 1) (by omega) (by omega)
  obtain ⟨x, rfl⟩ := h3
  try dsimp only at h1 h4
  have q1 : xL (XX σ1) = xL (XX σ) := h2.1
  have q2 : AI σ1 999 = AI σ 999 := h2.2.1
  refine ⟨some (.int k), some (.int x), z7, σ2, ?_, h5, h6⟩
  rw [s306_1062, b1, cond_true, b2, cond_true, b3, cond_true, h1, aft_v, s306_1085, q1, q2, b1, cond_true, b2, cond_true, b3, cond_true, h4, aft_v, s306_1109, s164_0, aft_v, s306_1115, h7, obl_t rfl, cond_true]
  by_cases hk : k = nI 0
  · rw [obl_t hk, cond_true, ib0, cond_true, clp0, h8 hk]
    rw [show w64 (.int x) = x.toInt64 from rfl, lcm_s, cond_true]
  · rw [obl_f hk, cond_false]

set_option maxRecDepth 100000 in
theorem case_13 {d : Nat} {σ : PS} {a4 : Int32} {z5 z6 z7 : Option Value} (hd : 64 ≤ d) (hI : Inv σ) (b1 : inb (a4 + (nI 1)) (xL (XX σ)) = true) (b2 : inb (a4 + (nI 2)) (xL (XX σ)) = true) (b3 : inb (a4 + (nI 3)) (xL (XX σ)) = true) (b4 : inb (a4 + (nI 4)) (xL (XX σ)) = true) (b5 : inb (a4 + (nI 5)) (xL (XX σ)) = true) (b6 : inb (a4 + (nI 6)) (xL (XX σ)) = true) (b7 : inb (a4 + (nI 7)) (xL (XX σ)) = true) : ∃ y5 y6 y7 τ, Run false (d + 2) 306 1142 [some (.ref 999), some (.ref 0), some (.ref 85), some (.ref 145), some (.int a4), z5, z6, z7] [] σ = Run false (d + 2) 306 3346 [some (.ref 999), some (.ref 0), some (.ref 85), some (.ref 145), some (.int a4), y5, y6, y7] [] τ ∧ Inv τ ∧ Kp σ τ := by
  obtain ⟨k, σ1, v, σ2, h1, h2, h3, h4, h5, h6, h7, h8⟩ := law_two (opD_of (op_declare hI (AI σ 999 (a4 + (nI 1)).toNatClampNeg) (AI σ 999 (a4 + (nI 2)).toNatClampNeg) (AI σ 999 (a4 + (nI 3)).toNatClampNeg) (AI σ 999 (a4 + (nI 4)).toNatClampNeg)) (show 40 ≤ 64 by decide)) (w279 (AI σ 999 (a4 + (nI 1)).toNatClampNeg) (AI σ 999 (a4 + (nI 2)).toNatClampNeg) (AI σ 999 (a4 + (nI 3)).toNatClampNeg) (AI σ 999 (a4 + (nI 4)).toNatClampNeg)) (fun d σ o h => Run_kS h) (d := d) (e := d + 1) (by omega) (by omega)
  obtain ⟨x, rfl⟩ := h3
  try dsimp only at h1 h4
  have q1 : xL (XX σ1) = xL (XX σ) := h2.1
  have q2 : AI σ1 999 = AI σ 999 := h2.2.1
  refine ⟨some (.int k), some (.int x), z7, σ2, ?_, h5, h6⟩
  rw [s306_1142, b1, cond_true, b2, cond_true, b3, cond_true, b4, cond_true, h1, aft_v, s306_1171, q1, q2, b1, cond_true, b2, cond_true, b3, cond_true, b4, cond_true, h4, aft_v, s306_1201, s164_0, aft_v, s306_1207, h7, obl_t rfl, cond_true]
  by_cases hk : k = nI 0
  · rw [obl_t hk, cond_true, ib0, cond_true, clp0, h8 hk]
    rw [show w64 (.int x) = x.toInt64 from rfl, lcm_s, cond_true]
  · rw [obl_f hk, cond_false]

set_option maxRecDepth 100000 in
theorem case_14 {d : Nat} {σ : PS} {a4 : Int32} {z5 z6 z7 : Option Value} (hd : 64 ≤ d) (hI : Inv σ) (b1 : inb (a4 + (nI 1)) (xL (XX σ)) = true) (b2 : inb (a4 + (nI 2)) (xL (XX σ)) = true) (b3 : inb (a4 + (nI 3)) (xL (XX σ)) = true) (b4 : inb (a4 + (nI 4)) (xL (XX σ)) = true) (b5 : inb (a4 + (nI 5)) (xL (XX σ)) = true) (b6 : inb (a4 + (nI 6)) (xL (XX σ)) = true) (b7 : inb (a4 + (nI 7)) (xL (XX σ)) = true) : ∃ y5 y6 y7 τ, Run false (d + 2) 306 1234 [some (.ref 999), some (.ref 0), some (.ref 85), some (.ref 145), some (.int a4), z5, z6, z7] [] σ = Run false (d + 2) 306 3346 [some (.ref 999), some (.ref 0), some (.ref 85), some (.ref 145), some (.int a4), y5, y6, y7] [] τ ∧ Inv τ ∧ Kp σ τ := by
  obtain ⟨k, σ1, v, σ2, h1, h2, h3, h4, h5, h6, h7, h8⟩ := law_two (opD_of (op_declared hI (AI σ 999 (a4 + (nI 1)).toNatClampNeg) (AI σ 999 (a4 + (nI 2)).toNatClampNeg) (AI σ 999 (a4 + (nI 3)).toNatClampNeg) (AI σ 999 (a4 + (nI 4)).toNatClampNeg)) (show 40 ≤ 64 by decide)) (w280 (AI σ 999 (a4 + (nI 1)).toNatClampNeg) (AI σ 999 (a4 + (nI 2)).toNatClampNeg) (AI σ 999 (a4 + (nI 3)).toNatClampNeg) (AI σ 999 (a4 + (nI 4)).toNatClampNeg)) (fun d σ o h => Run_kS h) (d := d) (e := d + 1) (by omega) (by omega)
  obtain ⟨x, rfl⟩ := h3
  try dsimp only at h1 h4
  have q1 : xL (XX σ1) = xL (XX σ) := h2.1
  have q2 : AI σ1 999 = AI σ 999 := h2.2.1
  refine ⟨some (.int k), some (.int x), z7, σ2, ?_, h5, h6⟩
  rw [s306_1234, b1, cond_true, b2, cond_true, b3, cond_true, b4, cond_true, h1, aft_v, s306_1263, q1, q2, b1, cond_true, b2, cond_true, b3, cond_true, b4, cond_true, h4, aft_v, s306_1293, s164_0, aft_v, s306_1299, h7, obl_t rfl, cond_true]
  by_cases hk : k = nI 0
  · rw [obl_t hk, cond_true, ib0, cond_true, clp0, h8 hk]
    rw [show w64 (.int x) = x.toInt64 from rfl, lcm_s, cond_true]
  · rw [obl_f hk, cond_false]

set_option maxRecDepth 100000 in
theorem case_15 {d : Nat} {σ : PS} {a4 : Int32} {z5 z6 z7 : Option Value} (hd : 64 ≤ d) (hI : Inv σ) (b1 : inb (a4 + (nI 1)) (xL (XX σ)) = true) (b2 : inb (a4 + (nI 2)) (xL (XX σ)) = true) (b3 : inb (a4 + (nI 3)) (xL (XX σ)) = true) (b4 : inb (a4 + (nI 4)) (xL (XX σ)) = true) (b5 : inb (a4 + (nI 5)) (xL (XX σ)) = true) (b6 : inb (a4 + (nI 6)) (xL (XX σ)) = true) (b7 : inb (a4 + (nI 7)) (xL (XX σ)) = true) : ∃ y5 y6 y7 τ, Run false (d + 2) 306 1326 [some (.ref 999), some (.ref 0), some (.ref 85), some (.ref 145), some (.int a4), z5, z6, z7] [] σ = Run false (d + 2) 306 3346 [some (.ref 999), some (.ref 0), some (.ref 85), some (.ref 145), some (.int a4), y5, y6, y7] [] τ ∧ Inv τ ∧ Kp σ τ := by
  obtain ⟨k, σ1, v, σ2, h1, h2, h3, h4, h5, h6, h7, h8⟩ := law_two (opD_of (op_small hI (AI σ 999 (a4 + (nI 1)).toNatClampNeg) (AI σ 999 (a4 + (nI 2)).toNatClampNeg) (AI σ 999 (a4 + (nI 3)).toNatClampNeg)) (show 40 ≤ 64 by decide)) (w281 (AI σ 999 (a4 + (nI 1)).toNatClampNeg) (AI σ 999 (a4 + (nI 2)).toNatClampNeg) (AI σ 999 (a4 + (nI 3)).toNatClampNeg)) (fun d σ o h => Run_kS h) (d := d) (e := d + 1) (by omega) (by omega)
  rcases h3 with rfl | rfl
  · try dsimp only at h1 h4
    have q1 : xL (XX σ1) = xL (XX σ) := h2.1
    have q2 : AI σ1 999 = AI σ 999 := h2.2.1
    refine ⟨some (.int k), some (.int (nI 0)), z7, σ2, ?_, h5, h6⟩
    rw [s306_1326, b1, cond_true, b2, cond_true, b3, cond_true, h1, aft_v, s306_1349, q1, q2, b1, cond_true, b2, cond_true, b3, cond_true, h4, aft_v, s306_1373, s164_0, aft_v, s306_1379, h7, obl_t rfl, cond_true]
    by_cases hk : k = nI 0
    · rw [obl_t hk, cond_true, ib0, cond_true, clp0, h8 hk]
      rw [w64_0, obl_t rfl, cond_true, lcm_s, cond_true]
    · rw [obl_f hk, cond_false]
  · try dsimp only at h1 h4
    have q1 : xL (XX σ1) = xL (XX σ) := h2.1
    have q2 : AI σ1 999 = AI σ 999 := h2.2.1
    refine ⟨some (.int k), some (.int (nI 1)), z7, σ2, ?_, h5, h6⟩
    rw [s306_1326, b1, cond_true, b2, cond_true, b3, cond_true, h1, aft_v, s306_1349, q1, q2, b1, cond_true, b2, cond_true, b3, cond_true, h4, aft_v, s306_1373, s164_0, aft_v, s306_1379, h7, obl_t rfl, cond_true]
    by_cases hk : k = nI 0
    · rw [obl_t hk, cond_true, ib0, cond_true, clp0, h8 hk]
      rw [w64_1, obl_f nI_10, cond_false, lcm_s, cond_true]
    · rw [obl_f hk, cond_false]

set_option maxRecDepth 100000 in
theorem case_16 {d : Nat} {σ : PS} {a4 : Int32} {z5 z6 z7 : Option Value} (hd : 64 ≤ d) (hI : Inv σ) (b1 : inb (a4 + (nI 1)) (xL (XX σ)) = true) (b2 : inb (a4 + (nI 2)) (xL (XX σ)) = true) (b3 : inb (a4 + (nI 3)) (xL (XX σ)) = true) (b4 : inb (a4 + (nI 4)) (xL (XX σ)) = true) (b5 : inb (a4 + (nI 5)) (xL (XX σ)) = true) (b6 : inb (a4 + (nI 6)) (xL (XX σ)) = true) (b7 : inb (a4 + (nI 7)) (xL (XX σ)) = true) : ∃ y5 y6 y7 τ, Run false (d + 2) 306 1413 [some (.ref 999), some (.ref 0), some (.ref 85), some (.ref 145), some (.int a4), z5, z6, z7] [] σ = Run false (d + 2) 306 3346 [some (.ref 999), some (.ref 0), some (.ref 85), some (.ref 145), some (.int a4), y5, y6, y7] [] τ ∧ Inv τ ∧ Kp σ τ := by
  obtain ⟨k, σ1, v, σ2, h1, h2, h3, h4, h5, h6, h7, h8⟩ := law_two (opD_of (op_fee hI (AI σ 999 (a4 + (nI 1)).toNatClampNeg) (AI σ 999 (a4 + (nI 2)).toNatClampNeg) (AI σ 999 (a4 + (nI 3)).toNatClampNeg)) (show 40 ≤ 64 by decide)) (w282 (AI σ 999 (a4 + (nI 1)).toNatClampNeg) (AI σ 999 (a4 + (nI 2)).toNatClampNeg) (AI σ 999 (a4 + (nI 3)).toNatClampNeg)) (fun d σ o h => Run_kS h) (d := d) (e := d + 1) (by omega) (by omega)
  obtain ⟨x, rfl⟩ := h3
  try dsimp only at h1 h4
  have q1 : xL (XX σ1) = xL (XX σ) := h2.1
  have q2 : AI σ1 999 = AI σ 999 := h2.2.1
  refine ⟨some (.int k), some (.long x), none, σ2, ?_, h5, h6⟩
  rw [s306_1413, b1, cond_true, b2, cond_true, b3, cond_true, h1, aft_v, s306_1436, q1, q2, b1, cond_true, b2, cond_true, b3, cond_true, h4, aft_v, s306_1460, s164_0, aft_v, s306_1466, h7, obl_t rfl, cond_true]
  by_cases hk : k = nI 0
  · rw [obl_t hk, cond_true, ib0, cond_true, clp0, h8 hk]
    rw [show w64 (.long x) = x from rfl, lcm_s, cond_true]
  · rw [obl_f hk, cond_false]

set_option maxRecDepth 100000 in
theorem case_17 {d : Nat} {σ : PS} {a4 : Int32} {z5 z6 z7 : Option Value} (hd : 64 ≤ d) (hI : Inv σ) (b1 : inb (a4 + (nI 1)) (xL (XX σ)) = true) (b2 : inb (a4 + (nI 2)) (xL (XX σ)) = true) (b3 : inb (a4 + (nI 3)) (xL (XX σ)) = true) (b4 : inb (a4 + (nI 4)) (xL (XX σ)) = true) (b5 : inb (a4 + (nI 5)) (xL (XX σ)) = true) (b6 : inb (a4 + (nI 6)) (xL (XX σ)) = true) (b7 : inb (a4 + (nI 7)) (xL (XX σ)) = true) : ∃ y5 y6 y7 τ, Run false (d + 2) 306 1492 [some (.ref 999), some (.ref 0), some (.ref 85), some (.ref 145), some (.int a4), z5, z6, z7] [] σ = Run false (d + 2) 306 3346 [some (.ref 999), some (.ref 0), some (.ref 85), some (.ref 145), some (.int a4), y5, y6, y7] [] τ ∧ Inv τ ∧ Kp σ τ := by
  obtain ⟨k, σ1, v, σ2, h1, h2, h3, h4, h5, h6, h7, h8⟩ := law_two (opD_of (op_bill hI (AI σ 999 (a4 + (nI 1)).toNatClampNeg) (AI σ 999 (a4 + (nI 2)).toNatClampNeg)) (show 40 ≤ 64 by decide)) (w283 (AI σ 999 (a4 + (nI 1)).toNatClampNeg) (AI σ 999 (a4 + (nI 2)).toNatClampNeg)) (fun d σ o h => Run_kS h) (d := d) (e := d + 1) (by omega) (by omega)
  obtain ⟨x, rfl⟩ := h3
  try dsimp only at h1 h4
  have q1 : xL (XX σ1) = xL (XX σ) := h2.1
  have q2 : AI σ1 999 = AI σ 999 := h2.2.1
  refine ⟨some (.int k), some (.long x), none, σ2, ?_, h5, h6⟩
  rw [s306_1492, b1, cond_true, b2, cond_true, h1, aft_v, s306_1509, q1, q2, b1, cond_true, b2, cond_true, h4, aft_v, s306_1527, s164_0, aft_v, s306_1533, h7, obl_t rfl, cond_true]
  by_cases hk : k = nI 0
  · rw [obl_t hk, cond_true, ib0, cond_true, clp0, h8 hk]
    rw [show w64 (.long x) = x from rfl, lcm_s, cond_true]
  · rw [obl_f hk, cond_false]

set_option maxRecDepth 100000 in
theorem case_18 {d : Nat} {σ : PS} {a4 : Int32} {z5 z6 z7 : Option Value} (hd : 64 ≤ d) (hI : Inv σ) (b1 : inb (a4 + (nI 1)) (xL (XX σ)) = true) (b2 : inb (a4 + (nI 2)) (xL (XX σ)) = true) (b3 : inb (a4 + (nI 3)) (xL (XX σ)) = true) (b4 : inb (a4 + (nI 4)) (xL (XX σ)) = true) (b5 : inb (a4 + (nI 5)) (xL (XX σ)) = true) (b6 : inb (a4 + (nI 6)) (xL (XX σ)) = true) (b7 : inb (a4 + (nI 7)) (xL (XX σ)) = true) : ∃ y5 y6 y7 τ, Run false (d + 2) 306 1559 [some (.ref 999), some (.ref 0), some (.ref 85), some (.ref 145), some (.int a4), z5, z6, z7] [] σ = Run false (d + 2) 306 3346 [some (.ref 999), some (.ref 0), some (.ref 85), some (.ref 145), some (.int a4), y5, y6, y7] [] τ ∧ Inv τ ∧ Kp σ τ := by
  obtain ⟨k, σ1, v, σ2, h1, h2, h3, h4, h5, h6, h7, h8⟩ := law_two (op_tried hI (AI σ 999 (a4 + (nI 1)).toNatClampNeg) (AI σ 999 (a4 + (nI 2)).toNatClampNeg) (AI σ 999 (a4 + (nI 3)).toNatClampNeg)) (w284 (AI σ 999 (a4 + (nI 1)).toNatClampNeg) (AI σ 999 (a4 + (nI 2)).toNatClampNeg) (AI σ 999 (a4 + (nI 3)).toNatClampNeg)) (fun d σ o h => Run_kS h) (d := d) (e := d + 1) (by omega) (by omega)
  obtain ⟨x, rfl⟩ := h3
  try dsimp only at h1 h4
  have q1 : xL (XX σ1) = xL (XX σ) := h2.1
  have q2 : AI σ1 999 = AI σ 999 := h2.2.1
  refine ⟨some (.int k), some (.long x), none, σ2, ?_, h5, h6⟩
  rw [s306_1559, b1, cond_true, b2, cond_true, b3, cond_true, h1, aft_v, s306_1582, q1, q2, b1, cond_true, b2, cond_true, b3, cond_true, h4, aft_v, s306_1606, s164_0, aft_v, s306_1612, h7, obl_t rfl, cond_true]
  by_cases hk : k = nI 0
  · rw [obl_t hk, cond_true, ib0, cond_true, clp0, h8 hk]
    rw [show w64 (.long x) = x from rfl, lcm_s, cond_true]
  · rw [obl_f hk, cond_false]

set_option maxRecDepth 100000 in
theorem case_19 {d : Nat} {σ : PS} {a4 : Int32} {z5 z6 z7 : Option Value} (hd : 64 ≤ d) (hI : Inv σ) (b1 : inb (a4 + (nI 1)) (xL (XX σ)) = true) (b2 : inb (a4 + (nI 2)) (xL (XX σ)) = true) (b3 : inb (a4 + (nI 3)) (xL (XX σ)) = true) (b4 : inb (a4 + (nI 4)) (xL (XX σ)) = true) (b5 : inb (a4 + (nI 5)) (xL (XX σ)) = true) (b6 : inb (a4 + (nI 6)) (xL (XX σ)) = true) (b7 : inb (a4 + (nI 7)) (xL (XX σ)) = true) : ∃ y5 y6 y7 τ, Run false (d + 2) 306 1638 [some (.ref 999), some (.ref 0), some (.ref 85), some (.ref 145), some (.int a4), z5, z6, z7] [] σ = Run false (d + 2) 306 3346 [some (.ref 999), some (.ref 0), some (.ref 85), some (.ref 145), some (.int a4), y5, y6, y7] [] τ ∧ Inv τ ∧ Kp σ τ := by
  obtain ⟨k, σ1, v, σ2, h1, h2, h3, h4, h5, h6, h7, h8⟩ := law_two (opD_of (op_banned hI (AI σ 999 (a4 + (nI 1)).toNatClampNeg) (AI σ 999 (a4 + (nI 2)).toNatClampNeg) (AI σ 999 (a4 + (nI 3)).toNatClampNeg)) (show 40 ≤ 64 by decide)) (w285 (AI σ 999 (a4 + (nI 1)).toNatClampNeg) (AI σ 999 (a4 + (nI 2)).toNatClampNeg) (AI σ 999 (a4 + (nI 3)).toNatClampNeg)) (fun d σ o h => Run_kS h) (d := d) (e := d + 1) (by omega) (by omega)
  rcases h3 with rfl | rfl
  · try dsimp only at h1 h4
    have q1 : xL (XX σ1) = xL (XX σ) := h2.1
    have q2 : AI σ1 999 = AI σ 999 := h2.2.1
    refine ⟨some (.int k), some (.int (nI 0)), z7, σ2, ?_, h5, h6⟩
    rw [s306_1638, b1, cond_true, b2, cond_true, b3, cond_true, h1, aft_v, s306_1661, q1, q2, b1, cond_true, b2, cond_true, b3, cond_true, h4, aft_v, s306_1685, s164_0, aft_v, s306_1691, h7, obl_t rfl, cond_true]
    by_cases hk : k = nI 0
    · rw [obl_t hk, cond_true, ib0, cond_true, clp0, h8 hk]
      rw [w64_0, obl_t rfl, cond_true, lcm_s, cond_true]
    · rw [obl_f hk, cond_false]
  · try dsimp only at h1 h4
    have q1 : xL (XX σ1) = xL (XX σ) := h2.1
    have q2 : AI σ1 999 = AI σ 999 := h2.2.1
    refine ⟨some (.int k), some (.int (nI 1)), z7, σ2, ?_, h5, h6⟩
    rw [s306_1638, b1, cond_true, b2, cond_true, b3, cond_true, h1, aft_v, s306_1661, q1, q2, b1, cond_true, b2, cond_true, b3, cond_true, h4, aft_v, s306_1685, s164_0, aft_v, s306_1691, h7, obl_t rfl, cond_true]
    by_cases hk : k = nI 0
    · rw [obl_t hk, cond_true, ib0, cond_true, clp0, h8 hk]
      rw [w64_1, obl_f nI_10, cond_false, lcm_s, cond_true]
    · rw [obl_f hk, cond_false]

set_option maxRecDepth 100000 in
theorem case_20 {d : Nat} {σ : PS} {a4 : Int32} {z5 z6 z7 : Option Value} (hd : 64 ≤ d) (hI : Inv σ) (b1 : inb (a4 + (nI 1)) (xL (XX σ)) = true) (b2 : inb (a4 + (nI 2)) (xL (XX σ)) = true) (b3 : inb (a4 + (nI 3)) (xL (XX σ)) = true) (b4 : inb (a4 + (nI 4)) (xL (XX σ)) = true) (b5 : inb (a4 + (nI 5)) (xL (XX σ)) = true) (b6 : inb (a4 + (nI 6)) (xL (XX σ)) = true) (b7 : inb (a4 + (nI 7)) (xL (XX σ)) = true) : ∃ y5 y6 y7 τ, Run false (d + 2) 306 1725 [some (.ref 999), some (.ref 0), some (.ref 85), some (.ref 145), some (.int a4), z5, z6, z7] [] σ = Run false (d + 2) 306 3346 [some (.ref 999), some (.ref 0), some (.ref 85), some (.ref 145), some (.int a4), y5, y6, y7] [] τ ∧ Inv τ ∧ Kp σ τ := by
  obtain ⟨k, σ1, v, σ2, h1, h2, h3, h4, h5, h6, h7, h8⟩ := law_two (op_cheapest hI (AI σ 999 (a4 + (nI 1)).toNatClampNeg) (AI σ 999 (a4 + (nI 2)).toNatClampNeg) (AI σ 999 (a4 + (nI 3)).toNatClampNeg)) (w286 (AI σ 999 (a4 + (nI 1)).toNatClampNeg) (AI σ 999 (a4 + (nI 2)).toNatClampNeg) (AI σ 999 (a4 + (nI 3)).toNatClampNeg)) (fun d σ o h => Run_kS h) (d := d) (e := d + 1) (by omega) (by omega)
  obtain ⟨x, rfl⟩ := h3
  try dsimp only at h1 h4
  have q1 : xL (XX σ1) = xL (XX σ) := h2.1
  have q2 : AI σ1 999 = AI σ 999 := h2.2.1
  refine ⟨some (.int k), some (.long x), none, σ2, ?_, h5, h6⟩
  rw [s306_1725, b1, cond_true, b2, cond_true, b3, cond_true, h1, aft_v, s306_1748, q1, q2, b1, cond_true, b2, cond_true, b3, cond_true, h4, aft_v, s306_1772, s164_0, aft_v, s306_1778, h7, obl_t rfl, cond_true]
  by_cases hk : k = nI 0
  · rw [obl_t hk, cond_true, ib0, cond_true, clp0, h8 hk]
    rw [show w64 (.long x) = x from rfl, lcm_s, cond_true]
  · rw [obl_f hk, cond_false]

set_option maxRecDepth 100000 in
theorem case_21 {d : Nat} {σ : PS} {a4 : Int32} {z5 z6 z7 : Option Value} (hd : 64 ≤ d) (hI : Inv σ) (b1 : inb (a4 + (nI 1)) (xL (XX σ)) = true) (b2 : inb (a4 + (nI 2)) (xL (XX σ)) = true) (b3 : inb (a4 + (nI 3)) (xL (XX σ)) = true) (b4 : inb (a4 + (nI 4)) (xL (XX σ)) = true) (b5 : inb (a4 + (nI 5)) (xL (XX σ)) = true) (b6 : inb (a4 + (nI 6)) (xL (XX σ)) = true) (b7 : inb (a4 + (nI 7)) (xL (XX σ)) = true) : ∃ y5 y6 y7 τ, Run false (d + 2) 306 1804 [some (.ref 999), some (.ref 0), some (.ref 85), some (.ref 145), some (.int a4), z5, z6, z7] [] σ = Run false (d + 2) 306 3346 [some (.ref 999), some (.ref 0), some (.ref 85), some (.ref 145), some (.int a4), y5, y6, y7] [] τ ∧ Inv τ ∧ Kp σ τ := by
  obtain ⟨k, σ1, v, σ2, h1, h2, h3, h4, h5, h6, h7, h8⟩ := law_two (opD_of (op_scheme hI) (show 40 ≤ 64 by decide)) (w287) (fun d σ o h => Run_kS h) (d := d) (e := d + 1) (by omega) (by omega)
  obtain ⟨x, rfl⟩ := h3
  try dsimp only at h1 h4
  have q1 : xL (XX σ1) = xL (XX σ) := h2.1
  have q2 : AI σ1 999 = AI σ 999 := h2.2.1
  refine ⟨some (.int k), some (.int x), z7, σ2, ?_, h5, h6⟩
  rw [s306_1804, h1, aft_v, s306_1809, h4, aft_v, s306_1815, s164_0, aft_v, s306_1821, h7, obl_t rfl, cond_true]
  by_cases hk : k = nI 0
  · rw [obl_t hk, cond_true, ib0, cond_true, clp0, h8 hk]
    rw [show w64 (.int x) = x.toInt64 from rfl, lcm_s, cond_true]
  · rw [obl_f hk, cond_false]

set_option maxRecDepth 100000 in
theorem case_22 {d : Nat} {σ : PS} {a4 : Int32} {z5 z6 z7 : Option Value} (hd : 64 ≤ d) (hI : Inv σ) (b1 : inb (a4 + (nI 1)) (xL (XX σ)) = true) (b2 : inb (a4 + (nI 2)) (xL (XX σ)) = true) (b3 : inb (a4 + (nI 3)) (xL (XX σ)) = true) (b4 : inb (a4 + (nI 4)) (xL (XX σ)) = true) (b5 : inb (a4 + (nI 5)) (xL (XX σ)) = true) (b6 : inb (a4 + (nI 6)) (xL (XX σ)) = true) (b7 : inb (a4 + (nI 7)) (xL (XX σ)) = true) : ∃ y5 y6 y7 τ, Run false (d + 2) 306 1848 [some (.ref 999), some (.ref 0), some (.ref 85), some (.ref 145), some (.int a4), z5, z6, z7] [] σ = Run false (d + 2) 306 3346 [some (.ref 999), some (.ref 0), some (.ref 85), some (.ref 145), some (.int a4), y5, y6, y7] [] τ ∧ Inv τ ∧ Kp σ τ := by
  obtain ⟨k, σ1, v, σ2, h1, h2, h3, h4, h5, h6, h7, h8⟩ := law_two (opD_of (op_join hI (AI σ 999 (a4 + (nI 1)).toNatClampNeg) (AI σ 999 (a4 + (nI 2)).toNatClampNeg) (AI σ 999 (a4 + (nI 3)).toNatClampNeg)) (show 40 ≤ 64 by decide)) (w288 (AI σ 999 (a4 + (nI 1)).toNatClampNeg) (AI σ 999 (a4 + (nI 2)).toNatClampNeg) (AI σ 999 (a4 + (nI 3)).toNatClampNeg)) (fun d σ o h => Run_kS h) (d := d) (e := d + 1) (by omega) (by omega)
  obtain ⟨x, rfl⟩ := h3
  try dsimp only at h1 h4
  have q1 : xL (XX σ1) = xL (XX σ) := h2.1
  have q2 : AI σ1 999 = AI σ 999 := h2.2.1
  refine ⟨some (.int k), some (.int x), z7, σ2, ?_, h5, h6⟩
  rw [s306_1848, b1, cond_true, b2, cond_true, b3, cond_true, h1, aft_v, s306_1871, q1, q2, b1, cond_true, b2, cond_true, b3, cond_true, h4, aft_v, s306_1895, s164_0, aft_v, s306_1901, h7, obl_t rfl, cond_true]
  by_cases hk : k = nI 0
  · rw [obl_t hk, cond_true, ib0, cond_true, clp0, h8 hk]
    rw [show w64 (.int x) = x.toInt64 from rfl, lcm_s, cond_true]
  · rw [obl_f hk, cond_false]

set_option maxRecDepth 100000 in
theorem case_23 {d : Nat} {σ : PS} {a4 : Int32} {z5 z6 z7 : Option Value} (hd : 64 ≤ d) (hI : Inv σ) (b1 : inb (a4 + (nI 1)) (xL (XX σ)) = true) (b2 : inb (a4 + (nI 2)) (xL (XX σ)) = true) (b3 : inb (a4 + (nI 3)) (xL (XX σ)) = true) (b4 : inb (a4 + (nI 4)) (xL (XX σ)) = true) (b5 : inb (a4 + (nI 5)) (xL (XX σ)) = true) (b6 : inb (a4 + (nI 6)) (xL (XX σ)) = true) (b7 : inb (a4 + (nI 7)) (xL (XX σ)) = true) : ∃ y5 y6 y7 τ, Run false (d + 2) 306 1928 [some (.ref 999), some (.ref 0), some (.ref 85), some (.ref 145), some (.int a4), z5, z6, z7] [] σ = Run false (d + 2) 306 3346 [some (.ref 999), some (.ref 0), some (.ref 85), some (.ref 145), some (.int a4), y5, y6, y7] [] τ ∧ Inv τ ∧ Kp σ τ := by
  obtain ⟨k, σ1, v, σ2, h1, h2, h3, h4, h5, h6, h7, h8⟩ := law_two (opD_of (op_in hI (AI σ 999 (a4 + (nI 1)).toNatClampNeg) (AI σ 999 (a4 + (nI 2)).toNatClampNeg)) (show 40 ≤ 64 by decide)) (w289 (AI σ 999 (a4 + (nI 1)).toNatClampNeg) (AI σ 999 (a4 + (nI 2)).toNatClampNeg)) (fun d σ o h => Run_kS h) (d := d) (e := d + 1) (by omega) (by omega)
  obtain ⟨x, rfl⟩ := h3
  try dsimp only at h1 h4
  have q1 : xL (XX σ1) = xL (XX σ) := h2.1
  have q2 : AI σ1 999 = AI σ 999 := h2.2.1
  refine ⟨some (.int k), some (.int x), z7, σ2, ?_, h5, h6⟩
  rw [s306_1928, b1, cond_true, b2, cond_true, h1, aft_v, s306_1945, q1, q2, b1, cond_true, b2, cond_true, h4, aft_v, s306_1963, s164_0, aft_v, s306_1969, h7, obl_t rfl, cond_true]
  by_cases hk : k = nI 0
  · rw [obl_t hk, cond_true, ib0, cond_true, clp0, h8 hk]
    rw [show w64 (.int x) = x.toInt64 from rfl, lcm_s, cond_true]
  · rw [obl_f hk, cond_false]

set_option maxRecDepth 100000 in
theorem case_24 {d : Nat} {σ : PS} {a4 : Int32} {z5 z6 z7 : Option Value} (hd : 64 ≤ d) (hI : Inv σ) (b1 : inb (a4 + (nI 1)) (xL (XX σ)) = true) (b2 : inb (a4 + (nI 2)) (xL (XX σ)) = true) (b3 : inb (a4 + (nI 3)) (xL (XX σ)) = true) (b4 : inb (a4 + (nI 4)) (xL (XX σ)) = true) (b5 : inb (a4 + (nI 5)) (xL (XX σ)) = true) (b6 : inb (a4 + (nI 6)) (xL (XX σ)) = true) (b7 : inb (a4 + (nI 7)) (xL (XX σ)) = true) : ∃ y5 y6 y7 τ, Run false (d + 2) 306 1996 [some (.ref 999), some (.ref 0), some (.ref 85), some (.ref 145), some (.int a4), z5, z6, z7] [] σ = Run false (d + 2) 306 3346 [some (.ref 999), some (.ref 0), some (.ref 85), some (.ref 145), some (.int a4), y5, y6, y7] [] τ ∧ Inv τ ∧ Kp σ τ := by
  obtain ⟨k, σ1, v, σ2, h1, h2, h3, h4, h5, h6, h7, h8⟩ := law_two (opD_of (op_owes hI (AI σ 999 (a4 + (nI 1)).toNatClampNeg) (AI σ 999 (a4 + (nI 2)).toNatClampNeg) (AI σ 999 (a4 + (nI 3)).toNatClampNeg) (AI σ 999 (a4 + (nI 4)).toNatClampNeg) (AI σ 999 (a4 + (nI 5)).toNatClampNeg)) (show 40 ≤ 64 by decide)) (w290 (AI σ 999 (a4 + (nI 1)).toNatClampNeg) (AI σ 999 (a4 + (nI 2)).toNatClampNeg) (AI σ 999 (a4 + (nI 3)).toNatClampNeg) (AI σ 999 (a4 + (nI 4)).toNatClampNeg) (AI σ 999 (a4 + (nI 5)).toNatClampNeg)) (fun d σ o h => Run_kS h) (d := d) (e := d + 1) (by omega) (by omega)
  obtain ⟨x, rfl⟩ := h3
  try dsimp only at h1 h4
  have q1 : xL (XX σ1) = xL (XX σ) := h2.1
  have q2 : AI σ1 999 = AI σ 999 := h2.2.1
  refine ⟨some (.int k), some (.long x), none, σ2, ?_, h5, h6⟩
  rw [s306_1996, b1, cond_true, b2, cond_true, b3, cond_true, b4, cond_true, b5, cond_true, h1, aft_v, s306_2031, q1, q2, b1, cond_true, b2, cond_true, b3, cond_true, b4, cond_true, b5, cond_true, h4, aft_v, s306_2067, s164_0, aft_v, s306_2073, h7, obl_t rfl, cond_true]
  by_cases hk : k = nI 0
  · rw [obl_t hk, cond_true, ib0, cond_true, clp0, h8 hk]
    rw [show w64 (.long x) = x from rfl, lcm_s, cond_true]
  · rw [obl_f hk, cond_false]

set_option maxRecDepth 100000 in
theorem case_25 {d : Nat} {σ : PS} {a4 : Int32} {z5 z6 z7 : Option Value} (hd : 64 ≤ d) (hI : Inv σ) (b1 : inb (a4 + (nI 1)) (xL (XX σ)) = true) (b2 : inb (a4 + (nI 2)) (xL (XX σ)) = true) (b3 : inb (a4 + (nI 3)) (xL (XX σ)) = true) (b4 : inb (a4 + (nI 4)) (xL (XX σ)) = true) (b5 : inb (a4 + (nI 5)) (xL (XX σ)) = true) (b6 : inb (a4 + (nI 6)) (xL (XX σ)) = true) (b7 : inb (a4 + (nI 7)) (xL (XX σ)) = true) : ∃ y5 y6 y7 τ, Run false (d + 2) 306 2099 [some (.ref 999), some (.ref 0), some (.ref 85), some (.ref 145), some (.int a4), z5, z6, z7] [] σ = Run false (d + 2) 306 3346 [some (.ref 999), some (.ref 0), some (.ref 85), some (.ref 145), some (.int a4), y5, y6, y7] [] τ ∧ Inv τ ∧ Kp σ τ := by
  obtain ⟨k, σ1, v, σ2, h1, h2, h3, h4, h5, h6, h7, h8⟩ := law_two (opD_of (op_orphans hI (AI σ 999 (a4 + (nI 1)).toNatClampNeg) (AI σ 999 (a4 + (nI 2)).toNatClampNeg) (AI σ 999 (a4 + (nI 3)).toNatClampNeg)) (show 40 ≤ 64 by decide)) (w291 (AI σ 999 (a4 + (nI 1)).toNatClampNeg) (AI σ 999 (a4 + (nI 2)).toNatClampNeg) (AI σ 999 (a4 + (nI 3)).toNatClampNeg)) (fun d σ o h => Run_kS h) (d := d) (e := d + 1) (by omega) (by omega)
  obtain ⟨x, rfl⟩ := h3
  try dsimp only at h1 h4
  have q1 : xL (XX σ1) = xL (XX σ) := h2.1
  have q2 : AI σ1 999 = AI σ 999 := h2.2.1
  refine ⟨some (.int k), some (.int x), z7, σ2, ?_, h5, h6⟩
  rw [s306_2099, b1, cond_true, b2, cond_true, b3, cond_true, h1, aft_v, s306_2122, q1, q2, b1, cond_true, b2, cond_true, b3, cond_true, h4, aft_v, s306_2146, s164_0, aft_v, s306_2152, h7, obl_t rfl, cond_true]
  by_cases hk : k = nI 0
  · rw [obl_t hk, cond_true, ib0, cond_true, clp0, h8 hk]
    rw [show w64 (.int x) = x.toInt64 from rfl, lcm_s, cond_true]
  · rw [obl_f hk, cond_false]

set_option maxRecDepth 100000 in
theorem case_26 {d : Nat} {σ : PS} {a4 : Int32} {z5 z6 z7 : Option Value} (hd : 64 ≤ d) (hI : Inv σ) (b1 : inb (a4 + (nI 1)) (xL (XX σ)) = true) (b2 : inb (a4 + (nI 2)) (xL (XX σ)) = true) (b3 : inb (a4 + (nI 3)) (xL (XX σ)) = true) (b4 : inb (a4 + (nI 4)) (xL (XX σ)) = true) (b5 : inb (a4 + (nI 5)) (xL (XX σ)) = true) (b6 : inb (a4 + (nI 6)) (xL (XX σ)) = true) (b7 : inb (a4 + (nI 7)) (xL (XX σ)) = true) : ∃ y5 y6 y7 τ, Run false (d + 2) 306 2179 [some (.ref 999), some (.ref 0), some (.ref 85), some (.ref 145), some (.int a4), z5, z6, z7] [] σ = Run false (d + 2) 306 3346 [some (.ref 999), some (.ref 0), some (.ref 85), some (.ref 145), some (.int a4), y5, y6, y7] [] τ ∧ Inv τ ∧ Kp σ τ := by
  obtain ⟨k, σ1, v, σ2, h1, h2, h3, h4, h5, h6, h7, h8⟩ := law_two (opD_of (op_load hI (AI σ 999 (a4 + (nI 1)).toNatClampNeg) (AI σ 999 (a4 + (nI 2)).toNatClampNeg) (AI σ 999 (a4 + (nI 3)).toNatClampNeg) (AI σ 999 (a4 + (nI 4)).toNatClampNeg) (AI σ 999 (a4 + (nI 5)).toNatClampNeg) (AI σ 999 (a4 + (nI 6)).toNatClampNeg) (AI σ 999 (a4 + (nI 7)).toNatClampNeg)) (show 40 ≤ 64 by decide)) (w292 (AI σ 999 (a4 + (nI 1)).toNatClampNeg) (AI σ 999 (a4 + (nI 2)).toNatClampNeg) (AI σ 999 (a4 + (nI 3)).toNatClampNeg) (AI σ 999 (a4 + (nI 4)).toNatClampNeg) (AI σ 999 (a4 + (nI 5)).toNatClampNeg) (AI σ 999 (a4 + (nI 6)).toNatClampNeg) (AI σ 999 (a4 + (nI 7)).toNatClampNeg)) (fun d σ o h => Run_kS h) (d := d) (e := d + 1) (by omega) (by omega)
  obtain ⟨x, rfl⟩ := h3
  try dsimp only at h1 h4
  have q1 : xL (XX σ1) = xL (XX σ) := h2.1
  have q2 : AI σ1 999 = AI σ 999 := h2.2.1
  refine ⟨some (.int k), some (.int x), z7, σ2, ?_, h5, h6⟩
  rw [s306_2179, b1, cond_true, b2, cond_true, b3, cond_true, b4, cond_true, b5, cond_true, b6, cond_true, b7, cond_true, h1, aft_v, s306_2228, q1, q2, b1, cond_true, b2, cond_true, b3, cond_true, b4, cond_true, b5, cond_true, b6, cond_true, b7, cond_true, h4, aft_v, s306_2278, s164_0, aft_v, s306_2284, h7, obl_t rfl, cond_true]
  by_cases hk : k = nI 0
  · rw [obl_t hk, cond_true, ib0, cond_true, clp0, h8 hk]
    rw [show w64 (.int x) = x.toInt64 from rfl, lcm_s, cond_true]
  · rw [obl_f hk, cond_false]

set_option maxRecDepth 100000 in
theorem case_27 {d : Nat} {σ : PS} {a4 : Int32} {z5 z6 z7 : Option Value} (hd : 64 ≤ d) (hI : Inv σ) (b1 : inb (a4 + (nI 1)) (xL (XX σ)) = true) (b2 : inb (a4 + (nI 2)) (xL (XX σ)) = true) (b3 : inb (a4 + (nI 3)) (xL (XX σ)) = true) (b4 : inb (a4 + (nI 4)) (xL (XX σ)) = true) (b5 : inb (a4 + (nI 5)) (xL (XX σ)) = true) (b6 : inb (a4 + (nI 6)) (xL (XX σ)) = true) (b7 : inb (a4 + (nI 7)) (xL (XX σ)) = true) : ∃ y5 y6 y7 τ, Run false (d + 2) 306 2311 [some (.ref 999), some (.ref 0), some (.ref 85), some (.ref 145), some (.int a4), z5, z6, z7] [] σ = Run false (d + 2) 306 3346 [some (.ref 999), some (.ref 0), some (.ref 85), some (.ref 145), some (.int a4), y5, y6, y7] [] τ ∧ Inv τ ∧ Kp σ τ := by
  obtain ⟨k, σ1, v, σ2, h1, h2, h3, h4, h5, h6, h7, h8⟩ := law_two (opD_of (op_out hI (AI σ 999 (a4 + (nI 1)).toNatClampNeg) (AI σ 999 (a4 + (nI 2)).toNatClampNeg)) (show 40 ≤ 64 by decide)) (w293 (AI σ 999 (a4 + (nI 1)).toNatClampNeg) (AI σ 999 (a4 + (nI 2)).toNatClampNeg)) (fun d σ o h => Run_kS h) (d := d) (e := d + 1) (by omega) (by omega)
  obtain ⟨x, rfl⟩ := h3
  try dsimp only at h1 h4
  have q1 : xL (XX σ1) = xL (XX σ) := h2.1
  have q2 : AI σ1 999 = AI σ 999 := h2.2.1
  refine ⟨some (.int k), some (.int x), z7, σ2, ?_, h5, h6⟩
  rw [s306_2311, b1, cond_true, b2, cond_true, h1, aft_v, s306_2328, q1, q2, b1, cond_true, b2, cond_true, h4, aft_v, s306_2346, s164_0, aft_v, s306_2352, h7, obl_t rfl, cond_true]
  by_cases hk : k = nI 0
  · rw [obl_t hk, cond_true, ib0, cond_true, clp0, h8 hk]
    rw [show w64 (.int x) = x.toInt64 from rfl, lcm_s, cond_true]
  · rw [obl_f hk, cond_false]

set_option maxRecDepth 100000 in
theorem case_28 {d : Nat} {σ : PS} {a4 : Int32} {z5 z6 z7 : Option Value} (hd : 64 ≤ d) (hI : Inv σ) (b1 : inb (a4 + (nI 1)) (xL (XX σ)) = true) (b2 : inb (a4 + (nI 2)) (xL (XX σ)) = true) (b3 : inb (a4 + (nI 3)) (xL (XX σ)) = true) (b4 : inb (a4 + (nI 4)) (xL (XX σ)) = true) (b5 : inb (a4 + (nI 5)) (xL (XX σ)) = true) (b6 : inb (a4 + (nI 6)) (xL (XX σ)) = true) (b7 : inb (a4 + (nI 7)) (xL (XX σ)) = true) : ∃ y5 y6 y7 τ, Run false (d + 2) 306 2379 [some (.ref 999), some (.ref 0), some (.ref 85), some (.ref 145), some (.int a4), z5, z6, z7] [] σ = Run false (d + 2) 306 3346 [some (.ref 999), some (.ref 0), some (.ref 85), some (.ref 145), some (.int a4), y5, y6, y7] [] τ ∧ Inv τ ∧ Kp σ τ := by
  obtain ⟨k, σ1, v, σ2, h1, h2, h3, h4, h5, h6, h7, h8⟩ := law_two (opD_of (op_note hI (AI σ 999 (a4 + (nI 1)).toNatClampNeg) (AI σ 999 (a4 + (nI 2)).toNatClampNeg) (AI σ 999 (a4 + (nI 3)).toNatClampNeg) (AI σ 999 (a4 + (nI 4)).toNatClampNeg)) (show 40 ≤ 64 by decide)) (w294 (AI σ 999 (a4 + (nI 1)).toNatClampNeg) (AI σ 999 (a4 + (nI 2)).toNatClampNeg) (AI σ 999 (a4 + (nI 3)).toNatClampNeg) (AI σ 999 (a4 + (nI 4)).toNatClampNeg)) (fun d σ o h => Run_kS h) (d := d) (e := d + 1) (by omega) (by omega)
  obtain ⟨x, rfl⟩ := h3
  try dsimp only at h1 h4
  have q1 : xL (XX σ1) = xL (XX σ) := h2.1
  have q2 : AI σ1 999 = AI σ 999 := h2.2.1
  refine ⟨some (.int k), some (.int x), z7, σ2, ?_, h5, h6⟩
  rw [s306_2379, b1, cond_true, b2, cond_true, b3, cond_true, b4, cond_true, h1, aft_v, s306_2408, q1, q2, b1, cond_true, b2, cond_true, b3, cond_true, b4, cond_true, h4, aft_v, s306_2438, s164_0, aft_v, s306_2444, h7, obl_t rfl, cond_true]
  by_cases hk : k = nI 0
  · rw [obl_t hk, cond_true, ib0, cond_true, clp0, h8 hk]
    rw [show w64 (.int x) = x.toInt64 from rfl, lcm_s, cond_true]
  · rw [obl_f hk, cond_false]

set_option maxRecDepth 100000 in
theorem case_29 {d : Nat} {σ : PS} {a4 : Int32} {z5 z6 z7 : Option Value} (hd : 64 ≤ d) (hI : Inv σ) (b1 : inb (a4 + (nI 1)) (xL (XX σ)) = true) (b2 : inb (a4 + (nI 2)) (xL (XX σ)) = true) (b3 : inb (a4 + (nI 3)) (xL (XX σ)) = true) (b4 : inb (a4 + (nI 4)) (xL (XX σ)) = true) (b5 : inb (a4 + (nI 5)) (xL (XX σ)) = true) (b6 : inb (a4 + (nI 6)) (xL (XX σ)) = true) (b7 : inb (a4 + (nI 7)) (xL (XX σ)) = true) : ∃ y5 y6 y7 τ, Run false (d + 2) 306 2471 [some (.ref 999), some (.ref 0), some (.ref 85), some (.ref 145), some (.int a4), z5, z6, z7] [] σ = Run false (d + 2) 306 3346 [some (.ref 999), some (.ref 0), some (.ref 85), some (.ref 145), some (.int a4), y5, y6, y7] [] τ ∧ Inv τ ∧ Kp σ τ := by
  obtain ⟨k, σ1, v, σ2, h1, h2, h3, h4, h5, h6, h7, h8⟩ := law_two (opD_of (op_forged hI (AI σ 999 (a4 + (nI 1)).toNatClampNeg)) (show 40 ≤ 64 by decide)) (w295 (AI σ 999 (a4 + (nI 1)).toNatClampNeg)) (fun d σ o h => Run_kS h) (d := d) (e := d + 1) (by omega) (by omega)
  rcases h3 with rfl | rfl
  · try dsimp only at h1 h4
    have q1 : xL (XX σ1) = xL (XX σ) := h2.1
    have q2 : AI σ1 999 = AI σ 999 := h2.2.1
    refine ⟨some (.int k), some (.int (nI 0)), z7, σ2, ?_, h5, h6⟩
    rw [s306_2471, b1, cond_true, h1, aft_v, s306_2482, q1, q2, b1, cond_true, h4, aft_v, s306_2494, s164_0, aft_v, s306_2500, h7, obl_t rfl, cond_true]
    by_cases hk : k = nI 0
    · rw [obl_t hk, cond_true, ib0, cond_true, clp0, h8 hk]
      rw [w64_0, obl_t rfl, cond_true, lcm_s, cond_true]
    · rw [obl_f hk, cond_false]
  · try dsimp only at h1 h4
    have q1 : xL (XX σ1) = xL (XX σ) := h2.1
    have q2 : AI σ1 999 = AI σ 999 := h2.2.1
    refine ⟨some (.int k), some (.int (nI 1)), z7, σ2, ?_, h5, h6⟩
    rw [s306_2471, b1, cond_true, h1, aft_v, s306_2482, q1, q2, b1, cond_true, h4, aft_v, s306_2494, s164_0, aft_v, s306_2500, h7, obl_t rfl, cond_true]
    by_cases hk : k = nI 0
    · rw [obl_t hk, cond_true, ib0, cond_true, clp0, h8 hk]
      rw [w64_1, obl_f nI_10, cond_false, lcm_s, cond_true]
    · rw [obl_f hk, cond_false]

set_option maxRecDepth 100000 in
theorem case_30 {d : Nat} {σ : PS} {a4 : Int32} {z5 z6 z7 : Option Value} (hd : 64 ≤ d) (hI : Inv σ) (b1 : inb (a4 + (nI 1)) (xL (XX σ)) = true) (b2 : inb (a4 + (nI 2)) (xL (XX σ)) = true) (b3 : inb (a4 + (nI 3)) (xL (XX σ)) = true) (b4 : inb (a4 + (nI 4)) (xL (XX σ)) = true) (b5 : inb (a4 + (nI 5)) (xL (XX σ)) = true) (b6 : inb (a4 + (nI 6)) (xL (XX σ)) = true) (b7 : inb (a4 + (nI 7)) (xL (XX σ)) = true) : ∃ y5 y6 y7 τ, Run false (d + 2) 306 2534 [some (.ref 999), some (.ref 0), some (.ref 85), some (.ref 145), some (.int a4), z5, z6, z7] [] σ = Run false (d + 2) 306 3346 [some (.ref 999), some (.ref 0), some (.ref 85), some (.ref 145), some (.int a4), y5, y6, y7] [] τ ∧ Inv τ ∧ Kp σ τ := by
  obtain ⟨k, σ1, v, σ2, h1, h2, h3, h4, h5, h6, h7, h8⟩ := law_two (opD_of (op_pay hI (AI σ 999 (a4 + (nI 1)).toNatClampNeg) (AI σ 999 (a4 + (nI 2)).toNatClampNeg) (AI σ 999 (a4 + (nI 3)).toNatClampNeg)) (show 40 ≤ 64 by decide)) (w296 (AI σ 999 (a4 + (nI 1)).toNatClampNeg) (AI σ 999 (a4 + (nI 2)).toNatClampNeg) (AI σ 999 (a4 + (nI 3)).toNatClampNeg)) (fun d σ o h => Run_kS h) (d := d) (e := d + 1) (by omega) (by omega)
  obtain ⟨x, rfl⟩ := h3
  try dsimp only at h1 h4
  have q1 : xL (XX σ1) = xL (XX σ) := h2.1
  have q2 : AI σ1 999 = AI σ 999 := h2.2.1
  refine ⟨some (.int k), some (.long x), none, σ2, ?_, h5, h6⟩
  rw [s306_2534, b1, cond_true, b2, cond_true, b3, cond_true, h1, aft_v, s306_2557, q1, q2, b1, cond_true, b2, cond_true, b3, cond_true, h4, aft_v, s306_2581, s164_0, aft_v, s306_2587, h7, obl_t rfl, cond_true]
  by_cases hk : k = nI 0
  · rw [obl_t hk, cond_true, ib0, cond_true, clp0, h8 hk]
    rw [show w64 (.long x) = x from rfl, lcm_s, cond_true]
  · rw [obl_f hk, cond_false]

set_option maxRecDepth 100000 in
theorem case_31 {d : Nat} {σ : PS} {a4 : Int32} {z5 z6 z7 : Option Value} (hd : 64 ≤ d) (hI : Inv σ) (b1 : inb (a4 + (nI 1)) (xL (XX σ)) = true) (b2 : inb (a4 + (nI 2)) (xL (XX σ)) = true) (b3 : inb (a4 + (nI 3)) (xL (XX σ)) = true) (b4 : inb (a4 + (nI 4)) (xL (XX σ)) = true) (b5 : inb (a4 + (nI 5)) (xL (XX σ)) = true) (b6 : inb (a4 + (nI 6)) (xL (XX σ)) = true) (b7 : inb (a4 + (nI 7)) (xL (XX σ)) = true) : ∃ y5 y6 y7 τ, Run false (d + 2) 306 2613 [some (.ref 999), some (.ref 0), some (.ref 85), some (.ref 145), some (.int a4), z5, z6, z7] [] σ = Run false (d + 2) 306 3346 [some (.ref 999), some (.ref 0), some (.ref 85), some (.ref 145), some (.int a4), y5, y6, y7] [] τ ∧ Inv τ ∧ Kp σ τ := by
  obtain ⟨k, σ1, v, σ2, h1, h2, h3, h4, h5, h6, h7, h8⟩ := law_two (opD_of (op_offer hI (AI σ 999 (a4 + (nI 1)).toNatClampNeg) (AI σ 999 (a4 + (nI 2)).toNatClampNeg) (AI σ 999 (a4 + (nI 3)).toNatClampNeg)) (show 40 ≤ 64 by decide)) (w297 (AI σ 999 (a4 + (nI 1)).toNatClampNeg) (AI σ 999 (a4 + (nI 2)).toNatClampNeg) (AI σ 999 (a4 + (nI 3)).toNatClampNeg)) (fun d σ o h => Run_kS h) (d := d) (e := d + 1) (by omega) (by omega)
  obtain ⟨x, rfl⟩ := h3
  try dsimp only at h1 h4
  have q1 : xL (XX σ1) = xL (XX σ) := h2.1
  have q2 : AI σ1 999 = AI σ 999 := h2.2.1
  refine ⟨some (.int k), some (.int x), z7, σ2, ?_, h5, h6⟩
  rw [s306_2613, b1, cond_true, b2, cond_true, b3, cond_true, h1, aft_v, s306_2636, q1, q2, b1, cond_true, b2, cond_true, b3, cond_true, h4, aft_v, s306_2660, s164_0, aft_v, s306_2666, h7, obl_t rfl, cond_true]
  by_cases hk : k = nI 0
  · rw [obl_t hk, cond_true, ib0, cond_true, clp0, h8 hk]
    rw [show w64 (.int x) = x.toInt64 from rfl, lcm_s, cond_true]
  · rw [obl_f hk, cond_false]

set_option maxRecDepth 100000 in
theorem case_32 {d : Nat} {σ : PS} {a4 : Int32} {z5 z6 z7 : Option Value} (hd : 64 ≤ d) (hI : Inv σ) (b1 : inb (a4 + (nI 1)) (xL (XX σ)) = true) (b2 : inb (a4 + (nI 2)) (xL (XX σ)) = true) (b3 : inb (a4 + (nI 3)) (xL (XX σ)) = true) (b4 : inb (a4 + (nI 4)) (xL (XX σ)) = true) (b5 : inb (a4 + (nI 5)) (xL (XX σ)) = true) (b6 : inb (a4 + (nI 6)) (xL (XX σ)) = true) (b7 : inb (a4 + (nI 7)) (xL (XX σ)) = true) : ∃ y5 y6 y7 τ, Run false (d + 2) 306 2693 [some (.ref 999), some (.ref 0), some (.ref 85), some (.ref 145), some (.int a4), z5, z6, z7] [] σ = Run false (d + 2) 306 3346 [some (.ref 999), some (.ref 0), some (.ref 85), some (.ref 145), some (.int a4), y5, y6, y7] [] τ ∧ Inv τ ∧ Kp σ τ := by
  obtain ⟨k, σ1, v, σ2, h1, h2, h3, h4, h5, h6, h7, h8⟩ := law_two (opD_of (op_buying hI (AI σ 999 (a4 + (nI 1)).toNatClampNeg) (AI σ 999 (a4 + (nI 2)).toNatClampNeg) (AI σ 999 (a4 + (nI 3)).toNatClampNeg) (AI σ 999 (a4 + (nI 4)).toNatClampNeg)) (show 40 ≤ 64 by decide)) (w298 (AI σ 999 (a4 + (nI 1)).toNatClampNeg) (AI σ 999 (a4 + (nI 2)).toNatClampNeg) (AI σ 999 (a4 + (nI 3)).toNatClampNeg) (AI σ 999 (a4 + (nI 4)).toNatClampNeg)) (fun d σ o h => Run_kS h) (d := d) (e := d + 1) (by omega) (by omega)
  obtain ⟨x, rfl⟩ := h3
  try dsimp only at h1 h4
  have q1 : xL (XX σ1) = xL (XX σ) := h2.1
  have q2 : AI σ1 999 = AI σ 999 := h2.2.1
  refine ⟨some (.int k), some (.int x), z7, σ2, ?_, h5, h6⟩
  rw [s306_2693, b1, cond_true, b2, cond_true, b3, cond_true, b4, cond_true, h1, aft_v, s306_2722, q1, q2, b1, cond_true, b2, cond_true, b3, cond_true, b4, cond_true, h4, aft_v, s306_2752, s164_0, aft_v, s306_2758, h7, obl_t rfl, cond_true]
  by_cases hk : k = nI 0
  · rw [obl_t hk, cond_true, ib0, cond_true, clp0, h8 hk]
    rw [show w64 (.int x) = x.toInt64 from rfl, lcm_s, cond_true]
  · rw [obl_f hk, cond_false]

set_option maxRecDepth 100000 in
theorem case_33 {d : Nat} {σ : PS} {a4 : Int32} {z5 z6 z7 : Option Value} (hd : 64 ≤ d) (hI : Inv σ) (b1 : inb (a4 + (nI 1)) (xL (XX σ)) = true) (b2 : inb (a4 + (nI 2)) (xL (XX σ)) = true) (b3 : inb (a4 + (nI 3)) (xL (XX σ)) = true) (b4 : inb (a4 + (nI 4)) (xL (XX σ)) = true) (b5 : inb (a4 + (nI 5)) (xL (XX σ)) = true) (b6 : inb (a4 + (nI 6)) (xL (XX σ)) = true) (b7 : inb (a4 + (nI 7)) (xL (XX σ)) = true) : ∃ y5 y6 y7 τ, Run false (d + 2) 306 2785 [some (.ref 999), some (.ref 0), some (.ref 85), some (.ref 145), some (.int a4), z5, z6, z7] [] σ = Run false (d + 2) 306 3346 [some (.ref 999), some (.ref 0), some (.ref 85), some (.ref 145), some (.int a4), y5, y6, y7] [] τ ∧ Inv τ ∧ Kp σ τ := by
  obtain ⟨k, σ1, v, σ2, h1, h2, h3, h4, h5, h6, h7, h8⟩ := law_two (opD_of (op_buy hI (AI σ 999 (a4 + (nI 1)).toNatClampNeg) (AI σ 999 (a4 + (nI 2)).toNatClampNeg) (AI σ 999 (a4 + (nI 3)).toNatClampNeg)) (show 40 ≤ 64 by decide)) (w299 (AI σ 999 (a4 + (nI 1)).toNatClampNeg) (AI σ 999 (a4 + (nI 2)).toNatClampNeg) (AI σ 999 (a4 + (nI 3)).toNatClampNeg)) (fun d σ o h => Run_kS h) (d := d) (e := d + 1) (by omega) (by omega)
  obtain ⟨x, rfl⟩ := h3
  try dsimp only at h1 h4
  have q1 : xL (XX σ1) = xL (XX σ) := h2.1
  have q2 : AI σ1 999 = AI σ 999 := h2.2.1
  refine ⟨some (.int k), some (.int x), z7, σ2, ?_, h5, h6⟩
  rw [s306_2785, b1, cond_true, b2, cond_true, b3, cond_true, h1, aft_v, s306_2808, q1, q2, b1, cond_true, b2, cond_true, b3, cond_true, h4, aft_v, s306_2832, s164_0, aft_v, s306_2838, h7, obl_t rfl, cond_true]
  by_cases hk : k = nI 0
  · rw [obl_t hk, cond_true, ib0, cond_true, clp0, h8 hk]
    rw [show w64 (.int x) = x.toInt64 from rfl, lcm_s, cond_true]
  · rw [obl_f hk, cond_false]

set_option maxRecDepth 100000 in
theorem case_34 {d : Nat} {σ : PS} {a4 : Int32} {z5 z6 z7 : Option Value} (hd : 64 ≤ d) (hI : Inv σ) (b1 : inb (a4 + (nI 1)) (xL (XX σ)) = true) (b2 : inb (a4 + (nI 2)) (xL (XX σ)) = true) (b3 : inb (a4 + (nI 3)) (xL (XX σ)) = true) (b4 : inb (a4 + (nI 4)) (xL (XX σ)) = true) (b5 : inb (a4 + (nI 5)) (xL (XX σ)) = true) (b6 : inb (a4 + (nI 6)) (xL (XX σ)) = true) (b7 : inb (a4 + (nI 7)) (xL (XX σ)) = true) : ∃ y5 y6 y7 τ, Run false (d + 2) 306 2865 [some (.ref 999), some (.ref 0), some (.ref 85), some (.ref 145), some (.int a4), z5, z6, z7] [] σ = Run false (d + 2) 306 3346 [some (.ref 999), some (.ref 0), some (.ref 85), some (.ref 145), some (.int a4), y5, y6, y7] [] τ ∧ Inv τ ∧ Kp σ τ := by
  obtain ⟨k, σ1, v, σ2, h1, h2, h3, h4, h5, h6, h7, h8⟩ := law_two (opD_of (op_paid hI (AI σ 999 (a4 + (nI 1)).toNatClampNeg)) (show 40 ≤ 64 by decide)) (w300 (AI σ 999 (a4 + (nI 1)).toNatClampNeg)) (fun d σ o h => Run_kS h) (d := d) (e := d + 1) (by omega) (by omega)
  obtain ⟨x, rfl⟩ := h3
  try dsimp only at h1 h4
  have q1 : xL (XX σ1) = xL (XX σ) := h2.1
  have q2 : AI σ1 999 = AI σ 999 := h2.2.1
  refine ⟨some (.int k), some (.int x), z7, σ2, ?_, h5, h6⟩
  rw [s306_2865, b1, cond_true, h1, aft_v, s306_2876, q1, q2, b1, cond_true, h4, aft_v, s306_2888, s164_0, aft_v, s306_2894, h7, obl_t rfl, cond_true]
  by_cases hk : k = nI 0
  · rw [obl_t hk, cond_true, ib0, cond_true, clp0, h8 hk]
    rw [show w64 (.int x) = x.toInt64 from rfl, lcm_s, cond_true]
  · rw [obl_f hk, cond_false]

set_option maxRecDepth 100000 in
theorem case_35 {d : Nat} {σ : PS} {a4 : Int32} {z5 z6 z7 : Option Value} (hd : 64 ≤ d) (hI : Inv σ) (b1 : inb (a4 + (nI 1)) (xL (XX σ)) = true) (b2 : inb (a4 + (nI 2)) (xL (XX σ)) = true) (b3 : inb (a4 + (nI 3)) (xL (XX σ)) = true) (b4 : inb (a4 + (nI 4)) (xL (XX σ)) = true) (b5 : inb (a4 + (nI 5)) (xL (XX σ)) = true) (b6 : inb (a4 + (nI 6)) (xL (XX σ)) = true) (b7 : inb (a4 + (nI 7)) (xL (XX σ)) = true) : ∃ y5 y6 y7 τ, Run false (d + 2) 306 2921 [some (.ref 999), some (.ref 0), some (.ref 85), some (.ref 145), some (.int a4), z5, z6, z7] [] σ = Run false (d + 2) 306 3346 [some (.ref 999), some (.ref 0), some (.ref 85), some (.ref 145), some (.int a4), y5, y6, y7] [] τ ∧ Inv τ ∧ Kp σ τ := by
  obtain ⟨k, σ1, v, σ2, h1, h2, h3, h4, h5, h6, h7, h8⟩ := law_two (opD_of (op_sample hI (AI σ 999 (a4 + (nI 1)).toNatClampNeg) (AI σ 999 (a4 + (nI 2)).toNatClampNeg) (AI σ 999 (a4 + (nI 3)).toNatClampNeg) (AI σ 999 (a4 + (nI 4)).toNatClampNeg) (AI σ 999 (a4 + (nI 5)).toNatClampNeg)) (show 40 ≤ 64 by decide)) (w301 (AI σ 999 (a4 + (nI 1)).toNatClampNeg) (AI σ 999 (a4 + (nI 2)).toNatClampNeg) (AI σ 999 (a4 + (nI 3)).toNatClampNeg) (AI σ 999 (a4 + (nI 4)).toNatClampNeg) (AI σ 999 (a4 + (nI 5)).toNatClampNeg)) (fun d σ o h => Run_kS h) (d := d) (e := d + 1) (by omega) (by omega)
  obtain ⟨x, rfl⟩ := h3
  try dsimp only at h1 h4
  have q1 : xL (XX σ1) = xL (XX σ) := h2.1
  have q2 : AI σ1 999 = AI σ 999 := h2.2.1
  refine ⟨some (.int k), some (.int x), z7, σ2, ?_, h5, h6⟩
  rw [s306_2921, b1, cond_true, b2, cond_true, b3, cond_true, b4, cond_true, b5, cond_true, h1, aft_v, s306_2956, q1, q2, b1, cond_true, b2, cond_true, b3, cond_true, b4, cond_true, b5, cond_true, h4, aft_v, s306_2992, s164_0, aft_v, s306_2998, h7, obl_t rfl, cond_true]
  by_cases hk : k = nI 0
  · rw [obl_t hk, cond_true, ib0, cond_true, clp0, h8 hk]
    rw [show w64 (.int x) = x.toInt64 from rfl, lcm_s, cond_true]
  · rw [obl_f hk, cond_false]

set_option maxRecDepth 100000 in
theorem case_36 {d : Nat} {σ : PS} {a4 : Int32} {z5 z6 z7 : Option Value} (hd : 64 ≤ d) (hI : Inv σ) (b1 : inb (a4 + (nI 1)) (xL (XX σ)) = true) (b2 : inb (a4 + (nI 2)) (xL (XX σ)) = true) (b3 : inb (a4 + (nI 3)) (xL (XX σ)) = true) (b4 : inb (a4 + (nI 4)) (xL (XX σ)) = true) (b5 : inb (a4 + (nI 5)) (xL (XX σ)) = true) (b6 : inb (a4 + (nI 6)) (xL (XX σ)) = true) (b7 : inb (a4 + (nI 7)) (xL (XX σ)) = true) : ∃ y5 y6 y7 τ, Run false (d + 2) 306 3025 [some (.ref 999), some (.ref 0), some (.ref 85), some (.ref 145), some (.int a4), z5, z6, z7] [] σ = Run false (d + 2) 306 3346 [some (.ref 999), some (.ref 0), some (.ref 85), some (.ref 145), some (.int a4), y5, y6, y7] [] τ ∧ Inv τ ∧ Kp σ τ := by
  obtain ⟨k, σ1, v, σ2, h1, h2, h3, h4, h5, h6, h7, h8⟩ := law_two (opD_of (op_span hI (AI σ 999 (a4 + (nI 1)).toNatClampNeg) (AI σ 999 (a4 + (nI 2)).toNatClampNeg) (AI σ 999 (a4 + (nI 3)).toNatClampNeg) (AI σ 999 (a4 + (nI 4)).toNatClampNeg)) (show 40 ≤ 64 by decide)) (w302 (AI σ 999 (a4 + (nI 1)).toNatClampNeg) (AI σ 999 (a4 + (nI 2)).toNatClampNeg) (AI σ 999 (a4 + (nI 3)).toNatClampNeg) (AI σ 999 (a4 + (nI 4)).toNatClampNeg)) (fun d σ o h => Run_kS h) (d := d) (e := d + 1) (by omega) (by omega)
  obtain ⟨x, rfl⟩ := h3
  try dsimp only at h1 h4
  have q1 : xL (XX σ1) = xL (XX σ) := h2.1
  have q2 : AI σ1 999 = AI σ 999 := h2.2.1
  refine ⟨some (.int k), some (.int x), z7, σ2, ?_, h5, h6⟩
  rw [s306_3025, b1, cond_true, b2, cond_true, b3, cond_true, b4, cond_true, h1, aft_v, s306_3054, q1, q2, b1, cond_true, b2, cond_true, b3, cond_true, b4, cond_true, h4, aft_v, s306_3084, s164_0, aft_v, s306_3090, h7, obl_t rfl, cond_true]
  by_cases hk : k = nI 0
  · rw [obl_t hk, cond_true, ib0, cond_true, clp0, h8 hk]
    rw [show w64 (.int x) = x.toInt64 from rfl, lcm_s, cond_true]
  · rw [obl_f hk, cond_false]

set_option maxRecDepth 100000 in
theorem case_37 {d : Nat} {σ : PS} {a4 : Int32} {z5 z6 z7 : Option Value} (hd : 64 ≤ d) (hI : Inv σ) (b1 : inb (a4 + (nI 1)) (xL (XX σ)) = true) (b2 : inb (a4 + (nI 2)) (xL (XX σ)) = true) (b3 : inb (a4 + (nI 3)) (xL (XX σ)) = true) (b4 : inb (a4 + (nI 4)) (xL (XX σ)) = true) (b5 : inb (a4 + (nI 5)) (xL (XX σ)) = true) (b6 : inb (a4 + (nI 6)) (xL (XX σ)) = true) (b7 : inb (a4 + (nI 7)) (xL (XX σ)) = true) : ∃ y5 y6 y7 τ, Run false (d + 2) 306 3117 [some (.ref 999), some (.ref 0), some (.ref 85), some (.ref 145), some (.int a4), z5, z6, z7] [] σ = Run false (d + 2) 306 3346 [some (.ref 999), some (.ref 0), some (.ref 85), some (.ref 145), some (.int a4), y5, y6, y7] [] τ ∧ Inv τ ∧ Kp σ τ := by
  obtain ⟨k, σ1, v, σ2, h1, h2, h3, h4, h5, h6, h7, h8⟩ := law_two (opD_of (op_shy hI (AI σ 999 (a4 + (nI 1)).toNatClampNeg) (AI σ 999 (a4 + (nI 2)).toNatClampNeg) (AI σ 999 (a4 + (nI 3)).toNatClampNeg)) (show 40 ≤ 64 by decide)) (w303 (AI σ 999 (a4 + (nI 1)).toNatClampNeg) (AI σ 999 (a4 + (nI 2)).toNatClampNeg) (AI σ 999 (a4 + (nI 3)).toNatClampNeg)) (fun d σ o h => Run_kS h) (d := d) (e := d + 1) (by omega) (by omega)
  obtain ⟨x, rfl⟩ := h3
  try dsimp only at h1 h4
  have q1 : xL (XX σ1) = xL (XX σ) := h2.1
  have q2 : AI σ1 999 = AI σ 999 := h2.2.1
  refine ⟨some (.int k), some (.int x), z7, σ2, ?_, h5, h6⟩
  rw [s306_3117, b1, cond_true, b2, cond_true, b3, cond_true, h1, aft_v, s306_3140, q1, q2, b1, cond_true, b2, cond_true, b3, cond_true, h4, aft_v, s306_3164, s164_0, aft_v, s306_3170, h7, obl_t rfl, cond_true]
  by_cases hk : k = nI 0
  · rw [obl_t hk, cond_true, ib0, cond_true, clp0, h8 hk]
    rw [show w64 (.int x) = x.toInt64 from rfl, lcm_s, cond_true]
  · rw [obl_f hk, cond_false]

set_option maxRecDepth 100000 in
theorem case_38 {d : Nat} {σ : PS} {a4 : Int32} {z5 z6 z7 : Option Value} (hd : 64 ≤ d) (hI : Inv σ) (b1 : inb (a4 + (nI 1)) (xL (XX σ)) = true) (b2 : inb (a4 + (nI 2)) (xL (XX σ)) = true) (b3 : inb (a4 + (nI 3)) (xL (XX σ)) = true) (b4 : inb (a4 + (nI 4)) (xL (XX σ)) = true) (b5 : inb (a4 + (nI 5)) (xL (XX σ)) = true) (b6 : inb (a4 + (nI 6)) (xL (XX σ)) = true) (b7 : inb (a4 + (nI 7)) (xL (XX σ)) = true) : ∃ y5 y6 y7 τ, Run false (d + 2) 306 3197 [some (.ref 999), some (.ref 0), some (.ref 85), some (.ref 145), some (.int a4), z5, z6, z7] [] σ = Run false (d + 2) 306 3346 [some (.ref 999), some (.ref 0), some (.ref 85), some (.ref 145), some (.int a4), y5, y6, y7] [] τ ∧ Inv τ ∧ Kp σ τ := by
  obtain ⟨k, σ1, v, σ2, h1, h2, h3, h4, h5, h6, h7, h8⟩ := law_two (opD_of (op_shyest hI (AI σ 999 (a4 + (nI 1)).toNatClampNeg)) (show 40 ≤ 64 by decide)) (w304 (AI σ 999 (a4 + (nI 1)).toNatClampNeg)) (fun d σ o h => Run_kS h) (d := d) (e := d + 1) (by omega) (by omega)
  obtain ⟨x, rfl⟩ := h3
  try dsimp only at h1 h4
  have q1 : xL (XX σ1) = xL (XX σ) := h2.1
  have q2 : AI σ1 999 = AI σ 999 := h2.2.1
  refine ⟨some (.int k), some (.int x), z7, σ2, ?_, h5, h6⟩
  rw [s306_3197, b1, cond_true, h1, aft_v, s306_3208, q1, q2, b1, cond_true, h4, aft_v, s306_3220, s164_0, aft_v, s306_3226, h7, obl_t rfl, cond_true]
  by_cases hk : k = nI 0
  · rw [obl_t hk, cond_true, ib0, cond_true, clp0, h8 hk]
    rw [show w64 (.int x) = x.toInt64 from rfl, lcm_s, cond_true]
  · rw [obl_f hk, cond_false]

set_option maxRecDepth 100000 in
theorem case_39 {d : Nat} {σ : PS} {a4 : Int32} {z5 z6 z7 : Option Value} (hd : 64 ≤ d) (hI : Inv σ) (b1 : inb (a4 + (nI 1)) (xL (XX σ)) = true) (b2 : inb (a4 + (nI 2)) (xL (XX σ)) = true) (b3 : inb (a4 + (nI 3)) (xL (XX σ)) = true) (b4 : inb (a4 + (nI 4)) (xL (XX σ)) = true) (b5 : inb (a4 + (nI 5)) (xL (XX σ)) = true) (b6 : inb (a4 + (nI 6)) (xL (XX σ)) = true) (b7 : inb (a4 + (nI 7)) (xL (XX σ)) = true) : ∃ y5 y6 y7 τ, Run false (d + 2) 306 3253 [some (.ref 999), some (.ref 0), some (.ref 85), some (.ref 145), some (.int a4), z5, z6, z7] [] σ = Run false (d + 2) 306 3346 [some (.ref 999), some (.ref 0), some (.ref 85), some (.ref 145), some (.int a4), y5, y6, y7] [] τ ∧ Inv τ ∧ Kp σ τ := by
  obtain ⟨k, σ1, v, σ2, h1, h2, h3, h4, h5, h6, h7, h8⟩ := law_two (opD_of (op_worth hI (AI σ 999 (a4 + (nI 1)).toNatClampNeg) (AI σ 999 (a4 + (nI 2)).toNatClampNeg)) (show 40 ≤ 64 by decide)) (w305 (AI σ 999 (a4 + (nI 1)).toNatClampNeg) (AI σ 999 (a4 + (nI 2)).toNatClampNeg)) (fun d σ o h => Run_kS h) (d := d) (e := d + 1) (by omega) (by omega)
  obtain ⟨x, rfl⟩ := h3
  try dsimp only at h1 h4
  have q1 : xL (XX σ1) = xL (XX σ) := h2.1
  have q2 : AI σ1 999 = AI σ 999 := h2.2.1
  refine ⟨some (.int k), some (.int x), z7, σ2, ?_, h5, h6⟩
  rw [s306_3253, b1, cond_true, b2, cond_true, h1, aft_v, s306_3270, q1, q2, b1, cond_true, b2, cond_true, h4, aft_v, s306_3288, s164_0, aft_v, s306_3294, h7, obl_t rfl, cond_true]
  by_cases hk : k = nI 0
  · rw [obl_t hk, cond_true, ib0, cond_true, clp0, h8 hk]
    rw [show w64 (.int x) = x.toInt64 from rfl, lcm_s, cond_true]
  · rw [obl_f hk, cond_false]

set_option maxRecDepth 100000 in
theorem case_40 {d : Nat} {σ : PS} {a4 : Int32} {z5 z6 z7 : Option Value} (hd : 64 ≤ d) (hI : Inv σ) (b1 : inb (a4 + (nI 1)) (xL (XX σ)) = true) (b2 : inb (a4 + (nI 2)) (xL (XX σ)) = true) (b3 : inb (a4 + (nI 3)) (xL (XX σ)) = true) (b4 : inb (a4 + (nI 4)) (xL (XX σ)) = true) (b5 : inb (a4 + (nI 5)) (xL (XX σ)) = true) (b6 : inb (a4 + (nI 6)) (xL (XX σ)) = true) (b7 : inb (a4 + (nI 7)) (xL (XX σ)) = true) : ∃ y5 y6 y7 τ, Run false (d + 2) 306 3321 [some (.ref 999), some (.ref 0), some (.ref 85), some (.ref 145), some (.int a4), z5, z6, z7] [] σ = Run false (d + 2) 306 3346 [some (.ref 999), some (.ref 0), some (.ref 85), some (.ref 145), some (.int a4), y5, y6, y7] [] τ ∧ Inv τ ∧ Kp σ τ := by
  obtain ⟨v, σ1, σ2, h1, h2, h3, h4, h5, h6⟩ := law_one (opD_of (op_count hI (AI σ 999 (a4 + (nI 1)).toNatClampNeg)) (show 40 ≤ 64 by decide)) (fun d σ o h => Run_kS h) (d := d + 1) (e := d + 1) (by omega) (by omega)
  obtain ⟨x, rfl⟩ := h3
  try dsimp only at h1 h4
  have q1 : xL (XX σ1) = xL (XX σ) := h2.1
  have q2 : AI σ1 999 = AI σ 999 := h2.2.1
  refine ⟨z5, z6, z7, σ2, ?_, h5, h6⟩
  rw [s306_3321, b1, cond_true, h1, aft_v, s306_3331, q1, q2, b1, cond_true, h4, aft_v, s306_3341, obl_t rfl, cond_true]
