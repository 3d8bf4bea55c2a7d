/-! THE LAW: the wrappers (printed by wip/whole/genlaw.py) -/
def w64 (v : Value) : Int64 := match v with
  | .int x => x.toInt64
  | .long x => x
  | _ => 0
def WrO (wr cls : Nat → PS → Option PO) (ok : Value → Prop) (code : Nat → Nat) : Prop :=
  (∀ d σ v σ1, ok v → cls d σ = some (.inl (some v, σ1)) → wr (d + 1) σ = some (.inl (some (.int (nI 0)), wAL σ1 145 0 (w64 v)))) ∧
  (∀ d σ E σ1, 1 ≤ E → E ≤ 4 → code E ≠ 0 → cls d σ = some (.inr (E, σ1)) → wr (d + 1) σ = some (.inl (some (.int (nI (code E))), σ1)))
theorem ib0 : inb (nI 0) 1 = true := inbT (by decide) (by decide)
theorem clp0 : (nI 0).toNatClampNeg = 0 := nI_clamp (by decide)
theorem w64_0 : w64 (.int (nI 0)) = lN 0 := by decide +kernel
theorem w64_1 : w64 (.int (nI 1)) = lN 1 := by decide +kernel
theorem wAL_id {σ : PS} {o j : Nat} : wAL σ o j (AL σ o j) = σ := by
  obtain ⟨a, b, c, f, x⟩ := σ
  have e : ua f o j (f o j) = f := by
    funext p q
    unfold ua
    cases e : Nat.beq p o with
    | false => rfl
    | true =>
      have := Nat.eq_of_beq_eq_true e
      subst this
      by_cases h : q = j
      · subst h; simp
      · simp [h]
  show (a, b, c, ua f o j (f o j), x) = _
  rw [e]
/-- the wrapper of the class's call and the model's call behind it -/
theorem law_two {cls mdl wr : Nat → PS → Option PO} {ok : Value → Prop} {code : Nat → Nat} {σ : PS} {D : Nat} (hop : OpD D cls mdl σ ok code) (hw : WrO wr cls ok code) (hk : ∀ d σ o, wr d σ = some o → kS σ (oS o)) {d e : Nat} (hd : D ≤ d) (he : D ≤ e) :
    ∃ k σ1 v σ2, wr (d + 1) σ = some (.inl (some (.int k), σ1)) ∧ kS σ σ1 ∧ ok v ∧ mdl e σ1 = some (.inl (some v, σ2)) ∧ Inv σ2 ∧ Kp σ σ2 ∧ FI σ2 85 0 = k ∧ (k = nI 0 → AL σ2 145 0 = w64 v) := by
  rcases hop d e hd he with ⟨v, σ1, h1, h2, h3⟩ | ⟨E, σ1, v, σ2, h1, h2, h3, h4, h5, h6, h7, h8, h9, h10⟩
  · obtain ⟨σ2, g1, g2, g3, g4, g5⟩ := h3 (w64 v)
    have h := hw.1 d σ v σ1 h1 h2
    exact ⟨nI 0, _, v, σ2, h, hk _ _ _ h, h1, g1, g2, g5, g4, fun _ => g3⟩
  · have h := hw.2 d σ E σ1 h2 h3 h4 h6
    refine ⟨nI (code E), _, v, σ2, h, hk _ _ _ h, h1, h7, h8, h10, h9, fun q => ?_⟩
    exfalso
    have hc : code E = 1 ∨ code E = 2 ∨ code E = 3 := by omega
    rcases hc with e1 | e1 | e1 <;> rw [e1] at q <;> exact absurd q (by decide +kernel)
/-- a call without a wrapper -/
theorem law_one {cls mdl : Nat → PS → Option PO} {ok : Value → Prop} {σ : PS} {D : Nat} (hop : OpD D cls mdl σ ok (fun E => 0)) (hk : ∀ d σ o, cls d σ = some o → kS σ (oS o)) {d e : Nat} (hd : D ≤ d) (he : D ≤ e) :
    ∃ v σ1 σ2, cls d σ = some (.inl (some v, σ1)) ∧ kS σ σ1 ∧ ok v ∧ mdl e σ1 = some (.inl (some v, σ2)) ∧ Inv σ2 ∧ Kp σ σ2 := by
  rcases hop d e hd he with ⟨v, σ1, h1, h2, h3⟩ | ⟨E, σ1, v, σ2, h1, h2, h3, h4, h5, h6, h7, h8, h9, h10⟩
  · obtain ⟨σ2, g1, g2, g3, g4, g5⟩ := h3 (AL σ1 145 0)
    rw [wAL_id] at g1
    exact ⟨v, σ1, σ2, h2, hk _ _ _ h2, h1, g1, g2, g5⟩
  · exact absurd rfl h4

set_option maxRecDepth 100000 in
theorem w268 (a1 : Int32) : WrO (fun d σ => Run false d 268 0 [some (.ref 0), some (.int a1), some (.ref 145), none] [] σ) (fun d σ => Run false d 1 0 [some (.ref 0), some (.int a1)] [] σ) isI (fun E => if E = 1 then 1 else if E = 2 then 2 else 0) := by
  refine ⟨fun d σ v σ1 hv h => ?_, fun d σ E σ1 h1 h2 h3 h => ?_⟩
  · obtain ⟨x, rfl⟩ := hv
    dsimp only at h ⊢
    rw [s268_0, h, aft_v, s268_7, ib0, cond_true, clp0]
    all_goals rfl
  · dsimp only at h h3 ⊢
    have hE : E = 1 ∨ E = 2 ∨ E = 3 ∨ E = 4 := by omega
    rcases hE with rfl | rfl | rfl | rfl
    · rw [s268_0, h, show aft false (d + 1) 268 7 [some (.ref 0), some (.int a1), some (.ref 145), none] [.int (nI 0), .ref 145] (some (.inr (1, σ1))) = Run false (d + 1) 268 13 [some (.ref 0), some (.int a1), some (.ref 145), none] [] σ1 from rfl, s268_13]
      all_goals rfl
    · rw [s268_0, h, show aft false (d + 1) 268 7 [some (.ref 0), some (.int a1), some (.ref 145), none] [.int (nI 0), .ref 145] (some (.inr (2, σ1))) = Run false (d + 1) 268 16 [some (.ref 0), some (.int a1), some (.ref 145), none] [] σ1 from rfl, s268_16]
      all_goals rfl
    · exact absurd rfl h3
    · exact absurd rfl h3

set_option maxRecDepth 100000 in
theorem w269 (a1 a2 : Int32) : WrO (fun d σ => Run false d 269 0 [some (.ref 0), some (.int a1), some (.int a2), some (.ref 145), none] [] σ) (fun d σ => Run false d 3 0 [some (.ref 0), some (.int a1), some (.int a2), none] [] σ) isI (fun E => if E = 1 then 1 else 0) := by
  refine ⟨fun d σ v σ1 hv h => ?_, fun d σ E σ1 h1 h2 h3 h => ?_⟩
  · obtain ⟨x, rfl⟩ := hv
    dsimp only at h ⊢
    rw [s269_0, h, aft_v, s269_8, ib0, cond_true, clp0]
    all_goals rfl
  · dsimp only at h h3 ⊢
    have hE : E = 1 ∨ E = 2 ∨ E = 3 ∨ E = 4 := by omega
    rcases hE with rfl | rfl | rfl | rfl
    · rw [s269_0, h, show aft false (d + 1) 269 8 [some (.ref 0), some (.int a1), some (.int a2), some (.ref 145), none] [.int (nI 0), .ref 145] (some (.inr (1, σ1))) = Run false (d + 1) 269 15 [some (.ref 0), some (.int a1), some (.int a2), some (.ref 145), none] [] σ1 from rfl, s269_15]
      all_goals rfl
    · exact absurd rfl h3
    · exact absurd rfl h3
    · exact absurd rfl h3

set_option maxRecDepth 100000 in
theorem w270 (a1 a2 a3 : Int32) : WrO (fun d σ => Run false d 270 0 [some (.ref 0), some (.int a1), some (.int a2), some (.int a3), some (.ref 145), none] [] σ) (fun d σ => Run false d 5 0 [some (.ref 0), some (.int a1), some (.int a2), some (.int a3)] [] σ) isI (fun E => if E = 1 then 1 else 0) := by
  refine ⟨fun d σ v σ1 hv h => ?_, fun d σ E σ1 h1 h2 h3 h => ?_⟩
  · obtain ⟨x, rfl⟩ := hv
    dsimp only at h ⊢
    rw [s270_0, h, aft_v, s270_10, ib0, cond_true, clp0]
    all_goals rfl
  · dsimp only at h h3 ⊢
    have hE : E = 1 ∨ E = 2 ∨ E = 3 ∨ E = 4 := by omega
    rcases hE with rfl | rfl | rfl | rfl
    · rw [s270_0, h, show aft false (d + 1) 270 10 [some (.ref 0), some (.int a1), some (.int a2), some (.int a3), some (.ref 145), none] [.int (nI 0), .ref 145] (some (.inr (1, σ1))) = Run false (d + 1) 270 17 [some (.ref 0), some (.int a1), some (.int a2), some (.int a3), some (.ref 145), none] [] σ1 from rfl, s270_17]
      all_goals rfl
    · exact absurd rfl h3
    · exact absurd rfl h3
    · exact absurd rfl h3

set_option maxRecDepth 100000 in
theorem w271 (a1 a2 : Int32) : WrO (fun d σ => Run false d 271 0 [some (.ref 0), some (.int a1), some (.int a2), some (.ref 145), none] [] σ) (fun d σ => Run false d 6 0 [some (.ref 0), some (.int a1), some (.int a2), none] [] σ) isI (fun E => if E = 1 then 1 else 0) := by
  refine ⟨fun d σ v σ1 hv h => ?_, fun d σ E σ1 h1 h2 h3 h => ?_⟩
  · obtain ⟨x, rfl⟩ := hv
    dsimp only at h ⊢
    rw [s271_0, h, aft_v, s271_8, ib0, cond_true, clp0]
    all_goals rfl
  · dsimp only at h h3 ⊢
    have hE : E = 1 ∨ E = 2 ∨ E = 3 ∨ E = 4 := by omega
    rcases hE with rfl | rfl | rfl | rfl
    · rw [s271_0, h, show aft false (d + 1) 271 8 [some (.ref 0), some (.int a1), some (.int a2), some (.ref 145), none] [.int (nI 0), .ref 145] (some (.inr (1, σ1))) = Run false (d + 1) 271 15 [some (.ref 0), some (.int a1), some (.int a2), some (.ref 145), none] [] σ1 from rfl, s271_15]
      all_goals rfl
    · exact absurd rfl h3
    · exact absurd rfl h3
    · exact absurd rfl h3

set_option maxRecDepth 100000 in
theorem w272 : WrO (fun d σ => Run false d 272 0 [some (.ref 0), some (.ref 145), none] [] σ) (fun d σ => Run false d 7 0 [some (.ref 0)] [] σ) isI (fun E => if E = 2 then 1 else 0) := by
  refine ⟨fun d σ v σ1 hv h => ?_, fun d σ E σ1 h1 h2 h3 h => ?_⟩
  · obtain ⟨x, rfl⟩ := hv
    dsimp only at h ⊢
    rw [s272_0, h, aft_v, s272_6, ib0, cond_true, clp0]
    all_goals rfl
  · dsimp only at h h3 ⊢
    have hE : E = 1 ∨ E = 2 ∨ E = 3 ∨ E = 4 := by omega
    rcases hE with rfl | rfl | rfl | rfl
    · exact absurd rfl h3
    · rw [s272_0, h, show aft false (d + 1) 272 6 [some (.ref 0), some (.ref 145), none] [.int (nI 0), .ref 145] (some (.inr (2, σ1))) = Run false (d + 1) 272 12 [some (.ref 0), some (.ref 145), none] [] σ1 from rfl, s272_12]
      all_goals rfl
    · exact absurd rfl h3
    · exact absurd rfl h3

set_option maxRecDepth 100000 in
theorem w273 (a1 : Int32) : WrO (fun d σ => Run false d 273 0 [some (.ref 0), some (.int a1), some (.ref 145), none] [] σ) (fun d σ => Run false d 8 0 [some (.ref 0), some (.int a1)] [] σ) isI (fun E => if E = 4 then 1 else 0) := by
  refine ⟨fun d σ v σ1 hv h => ?_, fun d σ E σ1 h1 h2 h3 h => ?_⟩
  · obtain ⟨x, rfl⟩ := hv
    dsimp only at h ⊢
    rw [s273_0, h, aft_v, s273_7, ib0, cond_true, clp0]
    all_goals rfl
  · dsimp only at h h3 ⊢
    have hE : E = 1 ∨ E = 2 ∨ E = 3 ∨ E = 4 := by omega
    rcases hE with rfl | rfl | rfl | rfl
    · exact absurd rfl h3
    · exact absurd rfl h3
    · exact absurd rfl h3
    · rw [s273_0, h, show aft false (d + 1) 273 7 [some (.ref 0), some (.int a1), some (.ref 145), none] [.int (nI 0), .ref 145] (some (.inr (4, σ1))) = Run false (d + 1) 273 13 [some (.ref 0), some (.int a1), some (.ref 145), none] [] σ1 from rfl, s273_13]
      all_goals rfl

set_option maxRecDepth 100000 in
theorem w274 (a1 a2 a3 a4 a5 a6 a7 : Int32) : WrO (fun d σ => Run false d 274 0 [some (.ref 0), some (.int a1), some (.int a2), some (.int a3), some (.int a4), some (.int a5), some (.int a6), some (.int a7), some (.ref 145), none] [] σ) (fun d σ => Run false d 9 0 [some (.ref 0), some (.int a1), some (.int a2), some (.int a3), some (.int a4), some (.int a5), some (.int a6), some (.int a7), none] [] σ) isI (fun E => if E = 4 then 1 else if E = 1 then 2 else 0) := by
  refine ⟨fun d σ v σ1 hv h => ?_, fun d σ E σ1 h1 h2 h3 h => ?_⟩
  · obtain ⟨x, rfl⟩ := hv
    dsimp only at h ⊢
    rw [s274_0, h, aft_v, s274_18, ib0, cond_true, clp0]
    all_goals rfl
  · dsimp only at h h3 ⊢
    have hE : E = 1 ∨ E = 2 ∨ E = 3 ∨ E = 4 := by omega
    rcases hE with rfl | rfl | rfl | rfl
    · rw [s274_0, h, show aft false (d + 1) 274 18 [some (.ref 0), some (.int a1), some (.int a2), some (.int a3), some (.int a4), some (.int a5), some (.int a6), some (.int a7), some (.ref 145), none] [.int (nI 0), .ref 145] (some (.inr (1, σ1))) = Run false (d + 1) 274 29 [some (.ref 0), some (.int a1), some (.int a2), some (.int a3), some (.int a4), some (.int a5), some (.int a6), some (.int a7), some (.ref 145), none] [] σ1 from rfl, s274_29]
      all_goals rfl
    · exact absurd rfl h3
    · exact absurd rfl h3
    · rw [s274_0, h, show aft false (d + 1) 274 18 [some (.ref 0), some (.int a1), some (.int a2), some (.int a3), some (.int a4), some (.int a5), some (.int a6), some (.int a7), some (.ref 145), none] [.int (nI 0), .ref 145] (some (.inr (4, σ1))) = Run false (d + 1) 274 25 [some (.ref 0), some (.int a1), some (.int a2), some (.int a3), some (.int a4), some (.int a5), some (.int a6), some (.int a7), some (.ref 145), none] [] σ1 from rfl, s274_25]
      all_goals rfl

set_option maxRecDepth 100000 in
theorem w275 (a1 a2 : Int32) : WrO (fun d σ => Run false d 275 0 [some (.ref 0), some (.int a1), some (.int a2), some (.ref 145), none] [] σ) (fun d σ => Run false d 10 0 [some (.ref 0), some (.int a1), some (.int a2), none] [] σ) isI (fun E => if E = 4 then 1 else if E = 1 then 2 else 0) := by
  refine ⟨fun d σ v σ1 hv h => ?_, fun d σ E σ1 h1 h2 h3 h => ?_⟩
  · obtain ⟨x, rfl⟩ := hv
    dsimp only at h ⊢
    rw [s275_0, h, aft_v, s275_8, ib0, cond_true, clp0]
    all_goals rfl
  · dsimp only at h h3 ⊢
    have hE : E = 1 ∨ E = 2 ∨ E = 3 ∨ E = 4 := by omega
    rcases hE with rfl | rfl | rfl | rfl
    · rw [s275_0, h, show aft false (d + 1) 275 8 [some (.ref 0), some (.int a1), some (.int a2), some (.ref 145), none] [.int (nI 0), .ref 145] (some (.inr (1, σ1))) = Run false (d + 1) 275 19 [some (.ref 0), some (.int a1), some (.int a2), some (.ref 145), none] [] σ1 from rfl, s275_19]
      all_goals rfl
    · exact absurd rfl h3
    · exact absurd rfl h3
    · rw [s275_0, h, show aft false (d + 1) 275 8 [some (.ref 0), some (.int a1), some (.int a2), some (.ref 145), none] [.int (nI 0), .ref 145] (some (.inr (4, σ1))) = Run false (d + 1) 275 15 [some (.ref 0), some (.int a1), some (.int a2), some (.ref 145), none] [] σ1 from rfl, s275_15]
      all_goals rfl

set_option maxRecDepth 100000 in
theorem w276 (a1 a2 a3 a4 a5 : Int32) : WrO (fun d σ => Run false d 276 0 [some (.ref 0), some (.int a1), some (.int a2), some (.int a3), some (.int a4), some (.int a5), some (.ref 145), none] [] σ) (fun d σ => Run false d 11 0 [some (.ref 0), some (.int a1), some (.int a2), some (.int a3), some (.int a4), some (.int a5), none, none] [] σ) isI (fun E => if E = 4 then 1 else if E = 1 then 2 else 0) := by
  refine ⟨fun d σ v σ1 hv h => ?_, fun d σ E σ1 h1 h2 h3 h => ?_⟩
  · obtain ⟨x, rfl⟩ := hv
    dsimp only at h ⊢
    rw [s276_0, h, aft_v, s276_14, ib0, cond_true, clp0]
    all_goals rfl
  · dsimp only at h h3 ⊢
    have hE : E = 1 ∨ E = 2 ∨ E = 3 ∨ E = 4 := by omega
    rcases hE with rfl | rfl | rfl | rfl
    · rw [s276_0, h, show aft false (d + 1) 276 14 [some (.ref 0), some (.int a1), some (.int a2), some (.int a3), some (.int a4), some (.int a5), some (.ref 145), none] [.int (nI 0), .ref 145] (some (.inr (1, σ1))) = Run false (d + 1) 276 25 [some (.ref 0), some (.int a1), some (.int a2), some (.int a3), some (.int a4), some (.int a5), some (.ref 145), none] [] σ1 from rfl, s276_25]
      all_goals rfl
    · exact absurd rfl h3
    · exact absurd rfl h3
    · rw [s276_0, h, show aft false (d + 1) 276 14 [some (.ref 0), some (.int a1), some (.int a2), some (.int a3), some (.int a4), some (.int a5), some (.ref 145), none] [.int (nI 0), .ref 145] (some (.inr (4, σ1))) = Run false (d + 1) 276 21 [some (.ref 0), some (.int a1), some (.int a2), some (.int a3), some (.int a4), some (.int a5), some (.ref 145), none] [] σ1 from rfl, s276_21]
      all_goals rfl

set_option maxRecDepth 100000 in
theorem w277 (a1 a2 a3 : Int32) : WrO (fun d σ => Run false d 277 0 [some (.ref 0), some (.int a1), some (.int a2), some (.int a3), some (.ref 145), none] [] σ) (fun d σ => Run false d 12 0 [some (.ref 0), some (.int a1), some (.int a2), some (.int a3)] [] σ) isI (fun E => if E = 4 then 1 else if E = 1 then 2 else 0) := by
  refine ⟨fun d σ v σ1 hv h => ?_, fun d σ E σ1 h1 h2 h3 h => ?_⟩
  · obtain ⟨x, rfl⟩ := hv
    dsimp only at h ⊢
    rw [s277_0, h, aft_v, s277_10, ib0, cond_true, clp0]
    all_goals rfl
  · dsimp only at h h3 ⊢
    have hE : E = 1 ∨ E = 2 ∨ E = 3 ∨ E = 4 := by omega
    rcases hE with rfl | rfl | rfl | rfl
    · rw [s277_0, h, show aft false (d + 1) 277 10 [some (.ref 0), some (.int a1), some (.int a2), some (.int a3), some (.ref 145), none] [.int (nI 0), .ref 145] (some (.inr (1, σ1))) = Run false (d + 1) 277 21 [some (.ref 0), some (.int a1), some (.int a2), some (.int a3), some (.ref 145), none] [] σ1 from rfl, s277_21]
      all_goals rfl
    · exact absurd rfl h3
    · exact absurd rfl h3
    · rw [s277_0, h, show aft false (d + 1) 277 10 [some (.ref 0), some (.int a1), some (.int a2), some (.int a3), some (.ref 145), none] [.int (nI 0), .ref 145] (some (.inr (4, σ1))) = Run false (d + 1) 277 17 [some (.ref 0), some (.int a1), some (.int a2), some (.int a3), some (.ref 145), none] [] σ1 from rfl, s277_17]
      all_goals rfl

set_option maxRecDepth 100000 in
theorem w278 (a1 a2 a3 : Int32) : WrO (fun d σ => Run false d 278 0 [some (.ref 0), some (.int a1), some (.int a2), some (.int a3), some (.ref 145), none] [] σ) (fun d σ => Run false d 13 0 [some (.ref 0), some (.int a1), some (.int a2), some (.int a3), none, none] [] σ) isI (fun E => if E = 4 then 1 else if E = 1 then 2 else 0) := by
  refine ⟨fun d σ v σ1 hv h => ?_, fun d σ E σ1 h1 h2 h3 h => ?_⟩
  · obtain ⟨x, rfl⟩ := hv
    dsimp only at h ⊢
    rw [s278_0, h, aft_v, s278_10, ib0, cond_true, clp0]
    all_goals rfl
  · dsimp only at h h3 ⊢
    have hE : E = 1 ∨ E = 2 ∨ E = 3 ∨ E = 4 := by omega
    rcases hE with rfl | rfl | rfl | rfl
    · rw [s278_0, h, show aft false (d + 1) 278 10 [some (.ref 0), some (.int a1), some (.int a2), some (.int a3), some (.ref 145), none] [.int (nI 0), .ref 145] (some (.inr (1, σ1))) = Run false (d + 1) 278 21 [some (.ref 0), some (.int a1), some (.int a2), some (.int a3), some (.ref 145), none] [] σ1 from rfl, s278_21]
      all_goals rfl
    · exact absurd rfl h3
    · exact absurd rfl h3
    · rw [s278_0, h, show aft false (d + 1) 278 10 [some (.ref 0), some (.int a1), some (.int a2), some (.int a3), some (.ref 145), none] [.int (nI 0), .ref 145] (some (.inr (4, σ1))) = Run false (d + 1) 278 17 [some (.ref 0), some (.int a1), some (.int a2), some (.int a3), some (.ref 145), none] [] σ1 from rfl, s278_17]
      all_goals rfl

set_option maxRecDepth 100000 in
theorem w279 (a1 a2 a3 a4 : Int32) : WrO (fun d σ => Run false d 279 0 [some (.ref 0), some (.int a1), some (.int a2), some (.int a3), some (.int a4), some (.ref 145), none] [] σ) (fun d σ => Run false d 14 0 [some (.ref 0), some (.int a1), some (.int a2), some (.int a3), some (.int a4)] [] σ) isI (fun E => if E = 4 then 1 else if E = 1 then 2 else 0) := by
  refine ⟨fun d σ v σ1 hv h => ?_, fun d σ E σ1 h1 h2 h3 h => ?_⟩
  · obtain ⟨x, rfl⟩ := hv
    dsimp only at h ⊢
    rw [s279_0, h, aft_v, s279_12, ib0, cond_true, clp0]
    all_goals rfl
  · dsimp only at h h3 ⊢
    have hE : E = 1 ∨ E = 2 ∨ E = 3 ∨ E = 4 := by omega
    rcases hE with rfl | rfl | rfl | rfl
    · rw [s279_0, h, show aft false (d + 1) 279 12 [some (.ref 0), some (.int a1), some (.int a2), some (.int a3), some (.int a4), some (.ref 145), none] [.int (nI 0), .ref 145] (some (.inr (1, σ1))) = Run false (d + 1) 279 23 [some (.ref 0), some (.int a1), some (.int a2), some (.int a3), some (.int a4), some (.ref 145), none] [] σ1 from rfl, s279_23]
      all_goals rfl
    · exact absurd rfl h3
    · exact absurd rfl h3
    · rw [s279_0, h, show aft false (d + 1) 279 12 [some (.ref 0), some (.int a1), some (.int a2), some (.int a3), some (.int a4), some (.ref 145), none] [.int (nI 0), .ref 145] (some (.inr (4, σ1))) = Run false (d + 1) 279 19 [some (.ref 0), some (.int a1), some (.int a2), some (.int a3), some (.int a4), some (.ref 145), none] [] σ1 from rfl, s279_19]
      all_goals rfl

set_option maxRecDepth 100000 in
theorem w280 (a1 a2 a3 a4 : Int32) : WrO (fun d σ => Run false d 280 0 [some (.ref 0), some (.int a1), some (.int a2), some (.int a3), some (.int a4), some (.ref 145), none] [] σ) (fun d σ => Run false d 15 0 [some (.ref 0), some (.int a1), some (.int a2), some (.int a3), some (.int a4)] [] σ) isI (fun E => if E = 4 then 1 else if E = 1 then 2 else 0) := by
  refine ⟨fun d σ v σ1 hv h => ?_, fun d σ E σ1 h1 h2 h3 h => ?_⟩
  · obtain ⟨x, rfl⟩ := hv
    dsimp only at h ⊢
    rw [s280_0, h, aft_v, s280_12, ib0, cond_true, clp0]
    all_goals rfl
  · dsimp only at h h3 ⊢
    have hE : E = 1 ∨ E = 2 ∨ E = 3 ∨ E = 4 := by omega
    rcases hE with rfl | rfl | rfl | rfl
    · rw [s280_0, h, show aft false (d + 1) 280 12 [some (.ref 0), some (.int a1), some (.int a2), some (.int a3), some (.int a4), some (.ref 145), none] [.int (nI 0), .ref 145] (some (.inr (1, σ1))) = Run false (d + 1) 280 23 [some (.ref 0), some (.int a1), some (.int a2), some (.int a3), some (.int a4), some (.ref 145), none] [] σ1 from rfl, s280_23]
      all_goals rfl
    · exact absurd rfl h3
    · exact absurd rfl h3
    · rw [s280_0, h, show aft false (d + 1) 280 12 [some (.ref 0), some (.int a1), some (.int a2), some (.int a3), some (.int a4), some (.ref 145), none] [.int (nI 0), .ref 145] (some (.inr (4, σ1))) = Run false (d + 1) 280 19 [some (.ref 0), some (.int a1), some (.int a2), some (.int a3), some (.int a4), some (.ref 145), none] [] σ1 from rfl, s280_19]
      all_goals rfl

set_option maxRecDepth 100000 in
theorem w281 (a1 a2 a3 : Int32) : WrO (fun d σ => Run false d 281 0 [some (.ref 0), some (.int a1), some (.int a2), some (.int a3), some (.ref 145), none] [] σ) (fun d σ => Run false d 16 0 [some (.ref 0), some (.int a1), some (.int a2), some (.int a3)] [] σ) isZ (fun E => if E = 4 then 1 else if E = 1 then 2 else 0) := by
  refine ⟨fun d σ v σ1 hv h => ?_, fun d σ E σ1 h1 h2 h3 h => ?_⟩
  · dsimp only at h ⊢
    rcases hv with rfl | rfl
    · rw [s281_0, h, aft_v, s281_10, obl_t rfl, cond_true, ib0, cond_true, clp0, w64_0]
    · rw [s281_0, h, aft_v, s281_10, obl_f nI_10, cond_false, ib0, cond_true, clp0, w64_1]
  · dsimp only at h h3 ⊢
    have hE : E = 1 ∨ E = 2 ∨ E = 3 ∨ E = 4 := by omega
    rcases hE with rfl | rfl | rfl | rfl
    · rw [s281_0, h, show aft false (d + 1) 281 10 [some (.ref 0), some (.int a1), some (.int a2), some (.int a3), some (.ref 145), none] [.int (nI 0), .ref 145] (some (.inr (1, σ1))) = Run false (d + 1) 281 28 [some (.ref 0), some (.int a1), some (.int a2), some (.int a3), some (.ref 145), none] [] σ1 from rfl, s281_28]
      all_goals rfl
    · exact absurd rfl h3
    · exact absurd rfl h3
    · rw [s281_0, h, show aft false (d + 1) 281 10 [some (.ref 0), some (.int a1), some (.int a2), some (.int a3), some (.ref 145), none] [.int (nI 0), .ref 145] (some (.inr (4, σ1))) = Run false (d + 1) 281 24 [some (.ref 0), some (.int a1), some (.int a2), some (.int a3), some (.ref 145), none] [] σ1 from rfl, s281_24]
      all_goals rfl

set_option maxRecDepth 100000 in
theorem w282 (a1 a2 a3 : Int32) : WrO (fun d σ => Run false d 282 0 [some (.ref 0), some (.int a1), some (.int a2), some (.int a3), some (.ref 145), none] [] σ) (fun d σ => Run false d 17 0 [some (.ref 0), some (.int a1), some (.int a2), some (.int a3)] [] σ) isL (fun E => if E = 4 then 1 else if E = 1 then 2 else 0) := by
  refine ⟨fun d σ v σ1 hv h => ?_, fun d σ E σ1 h1 h2 h3 h => ?_⟩
  · obtain ⟨x, rfl⟩ := hv
    dsimp only at h ⊢
    rw [s282_0, h, aft_v, s282_10, ib0, cond_true, clp0]
    all_goals rfl
  · dsimp only at h h3 ⊢
    have hE : E = 1 ∨ E = 2 ∨ E = 3 ∨ E = 4 := by omega
    rcases hE with rfl | rfl | rfl | rfl
    · rw [s282_0, h, show aft false (d + 1) 282 10 [some (.ref 0), some (.int a1), some (.int a2), some (.int a3), some (.ref 145), none] [.int (nI 0), .ref 145] (some (.inr (1, σ1))) = Run false (d + 1) 282 20 [some (.ref 0), some (.int a1), some (.int a2), some (.int a3), some (.ref 145), none] [] σ1 from rfl, s282_20]
      all_goals rfl
    · exact absurd rfl h3
    · exact absurd rfl h3
    · rw [s282_0, h, show aft false (d + 1) 282 10 [some (.ref 0), some (.int a1), some (.int a2), some (.int a3), some (.ref 145), none] [.int (nI 0), .ref 145] (some (.inr (4, σ1))) = Run false (d + 1) 282 16 [some (.ref 0), some (.int a1), some (.int a2), some (.int a3), some (.ref 145), none] [] σ1 from rfl, s282_16]
      all_goals rfl

set_option maxRecDepth 100000 in
theorem w283 (a1 a2 : Int32) : WrO (fun d σ => Run false d 283 0 [some (.ref 0), some (.int a1), some (.int a2), some (.ref 145), none] [] σ) (fun d σ => Run false d 18 0 [some (.ref 0), some (.int a1), some (.int a2), none, none, none] [] σ) isL (fun E => if E = 4 then 1 else if E = 1 then 2 else 0) := by
  refine ⟨fun d σ v σ1 hv h => ?_, fun d σ E σ1 h1 h2 h3 h => ?_⟩
  · obtain ⟨x, rfl⟩ := hv
    dsimp only at h ⊢
    rw [s283_0, h, aft_v, s283_8, ib0, cond_true, clp0]
    all_goals rfl
  · dsimp only at h h3 ⊢
    have hE : E = 1 ∨ E = 2 ∨ E = 3 ∨ E = 4 := by omega
    rcases hE with rfl | rfl | rfl | rfl
    · rw [s283_0, h, show aft false (d + 1) 283 8 [some (.ref 0), some (.int a1), some (.int a2), some (.ref 145), none] [.int (nI 0), .ref 145] (some (.inr (1, σ1))) = Run false (d + 1) 283 18 [some (.ref 0), some (.int a1), some (.int a2), some (.ref 145), none] [] σ1 from rfl, s283_18]
      all_goals rfl
    · exact absurd rfl h3
    · exact absurd rfl h3
    · rw [s283_0, h, show aft false (d + 1) 283 8 [some (.ref 0), some (.int a1), some (.int a2), some (.ref 145), none] [.int (nI 0), .ref 145] (some (.inr (4, σ1))) = Run false (d + 1) 283 14 [some (.ref 0), some (.int a1), some (.int a2), some (.ref 145), none] [] σ1 from rfl, s283_14]
      all_goals rfl

set_option maxRecDepth 100000 in
theorem w284 (a1 a2 a3 : Int32) : WrO (fun d σ => Run false d 284 0 [some (.ref 0), some (.int a1), some (.int a2), some (.int a3), some (.ref 145), none] [] σ) (fun d σ => Run false d 19 0 [some (.ref 0), some (.int a1), some (.int a2), some (.int a3), none, none, none] [] σ) isL (fun E => if E = 4 then 1 else if E = 1 then 2 else 0) := by
  refine ⟨fun d σ v σ1 hv h => ?_, fun d σ E σ1 h1 h2 h3 h => ?_⟩
  · obtain ⟨x, rfl⟩ := hv
    dsimp only at h ⊢
    rw [s284_0, h, aft_v, s284_10, ib0, cond_true, clp0]
    all_goals rfl
  · dsimp only at h h3 ⊢
    have hE : E = 1 ∨ E = 2 ∨ E = 3 ∨ E = 4 := by omega
    rcases hE with rfl | rfl | rfl | rfl
    · rw [s284_0, h, show aft false (d + 1) 284 10 [some (.ref 0), some (.int a1), some (.int a2), some (.int a3), some (.ref 145), none] [.int (nI 0), .ref 145] (some (.inr (1, σ1))) = Run false (d + 1) 284 20 [some (.ref 0), some (.int a1), some (.int a2), some (.int a3), some (.ref 145), none] [] σ1 from rfl, s284_20]
      all_goals rfl
    · exact absurd rfl h3
    · exact absurd rfl h3
    · rw [s284_0, h, show aft false (d + 1) 284 10 [some (.ref 0), some (.int a1), some (.int a2), some (.int a3), some (.ref 145), none] [.int (nI 0), .ref 145] (some (.inr (4, σ1))) = Run false (d + 1) 284 16 [some (.ref 0), some (.int a1), some (.int a2), some (.int a3), some (.ref 145), none] [] σ1 from rfl, s284_16]
      all_goals rfl

set_option maxRecDepth 100000 in
theorem w285 (a1 a2 a3 : Int32) : WrO (fun d σ => Run false d 285 0 [some (.ref 0), some (.int a1), some (.int a2), some (.int a3), some (.ref 145), none] [] σ) (fun d σ => Run false d 20 0 [some (.ref 0), some (.int a1), some (.int a2), some (.int a3)] [] σ) isZ (fun E => if E = 4 then 1 else if E = 1 then 2 else 0) := by
  refine ⟨fun d σ v σ1 hv h => ?_, fun d σ E σ1 h1 h2 h3 h => ?_⟩
  · dsimp only at h ⊢
    rcases hv with rfl | rfl
    · rw [s285_0, h, aft_v, s285_10, obl_t rfl, cond_true, ib0, cond_true, clp0, w64_0]
    · rw [s285_0, h, aft_v, s285_10, obl_f nI_10, cond_false, ib0, cond_true, clp0, w64_1]
  · dsimp only at h h3 ⊢
    have hE : E = 1 ∨ E = 2 ∨ E = 3 ∨ E = 4 := by omega
    rcases hE with rfl | rfl | rfl | rfl
    · rw [s285_0, h, show aft false (d + 1) 285 10 [some (.ref 0), some (.int a1), some (.int a2), some (.int a3), some (.ref 145), none] [.int (nI 0), .ref 145] (some (.inr (1, σ1))) = Run false (d + 1) 285 28 [some (.ref 0), some (.int a1), some (.int a2), some (.int a3), some (.ref 145), none] [] σ1 from rfl, s285_28]
      all_goals rfl
    · exact absurd rfl h3
    · exact absurd rfl h3
    · rw [s285_0, h, show aft false (d + 1) 285 10 [some (.ref 0), some (.int a1), some (.int a2), some (.int a3), some (.ref 145), none] [.int (nI 0), .ref 145] (some (.inr (4, σ1))) = Run false (d + 1) 285 24 [some (.ref 0), some (.int a1), some (.int a2), some (.int a3), some (.ref 145), none] [] σ1 from rfl, s285_24]
      all_goals rfl

set_option maxRecDepth 100000 in
theorem w286 (a1 a2 a3 : Int32) : WrO (fun d σ => Run false d 286 0 [some (.ref 0), some (.int a1), some (.int a2), some (.int a3), some (.ref 145), none] [] σ) (fun d σ => Run false d 21 0 [some (.ref 0), some (.int a1), some (.int a2), some (.int a3)] [] σ) isL (fun E => if E = 4 then 1 else if E = 1 then 2 else 0) := by
  refine ⟨fun d σ v σ1 hv h => ?_, fun d σ E σ1 h1 h2 h3 h => ?_⟩
  · obtain ⟨x, rfl⟩ := hv
    dsimp only at h ⊢
    rw [s286_0, h, aft_v, s286_10, ib0, cond_true, clp0]
    all_goals rfl
  · dsimp only at h h3 ⊢
    have hE : E = 1 ∨ E = 2 ∨ E = 3 ∨ E = 4 := by omega
    rcases hE with rfl | rfl | rfl | rfl
    · rw [s286_0, h, show aft false (d + 1) 286 10 [some (.ref 0), some (.int a1), some (.int a2), some (.int a3), some (.ref 145), none] [.int (nI 0), .ref 145] (some (.inr (1, σ1))) = Run false (d + 1) 286 20 [some (.ref 0), some (.int a1), some (.int a2), some (.int a3), some (.ref 145), none] [] σ1 from rfl, s286_20]
      all_goals rfl
    · exact absurd rfl h3
    · exact absurd rfl h3
    · rw [s286_0, h, show aft false (d + 1) 286 10 [some (.ref 0), some (.int a1), some (.int a2), some (.int a3), some (.ref 145), none] [.int (nI 0), .ref 145] (some (.inr (4, σ1))) = Run false (d + 1) 286 16 [some (.ref 0), some (.int a1), some (.int a2), some (.int a3), some (.ref 145), none] [] σ1 from rfl, s286_16]
      all_goals rfl

set_option maxRecDepth 100000 in
theorem w287 : WrO (fun d σ => Run false d 287 0 [some (.ref 0), some (.ref 145), none] [] σ) (fun d σ => Run false d 22 0 [some (.ref 0)] [] σ) isI (fun E => if E = 2 then 1 else 0) := by
  refine ⟨fun d σ v σ1 hv h => ?_, fun d σ E σ1 h1 h2 h3 h => ?_⟩
  · obtain ⟨x, rfl⟩ := hv
    dsimp only at h ⊢
    rw [s287_0, h, aft_v, s287_6, ib0, cond_true, clp0]
    all_goals rfl
  · dsimp only at h h3 ⊢
    have hE : E = 1 ∨ E = 2 ∨ E = 3 ∨ E = 4 := by omega
    rcases hE with rfl | rfl | rfl | rfl
    · exact absurd rfl h3
    · rw [s287_0, h, show aft false (d + 1) 287 6 [some (.ref 0), some (.ref 145), none] [.int (nI 0), .ref 145] (some (.inr (2, σ1))) = Run false (d + 1) 287 12 [some (.ref 0), some (.ref 145), none] [] σ1 from rfl, s287_12]
      all_goals rfl
    · exact absurd rfl h3
    · exact absurd rfl h3

set_option maxRecDepth 100000 in
theorem w288 (a1 a2 a3 : Int32) : WrO (fun d σ => Run false d 288 0 [some (.ref 0), some (.int a1), some (.int a2), some (.int a3), some (.ref 145), none] [] σ) (fun d σ => Run false d 23 0 [some (.ref 0), some (.int a1), some (.int a2), some (.int a3)] [] σ) isI (fun E => if E = 4 then 1 else if E = 3 then 2 else if E = 1 then 3 else 0) := by
  refine ⟨fun d σ v σ1 hv h => ?_, fun d σ E σ1 h1 h2 h3 h => ?_⟩
  · obtain ⟨x, rfl⟩ := hv
    dsimp only at h ⊢
    rw [s288_0, h, aft_v, s288_10, ib0, cond_true, clp0]
    all_goals rfl
  · dsimp only at h h3 ⊢
    have hE : E = 1 ∨ E = 2 ∨ E = 3 ∨ E = 4 := by omega
    rcases hE with rfl | rfl | rfl | rfl
    · rw [s288_0, h, show aft false (d + 1) 288 10 [some (.ref 0), some (.int a1), some (.int a2), some (.int a3), some (.ref 145), none] [.int (nI 0), .ref 145] (some (.inr (1, σ1))) = Run false (d + 1) 288 25 [some (.ref 0), some (.int a1), some (.int a2), some (.int a3), some (.ref 145), none] [] σ1 from rfl, s288_25]
      all_goals rfl
    · exact absurd rfl h3
    · rw [s288_0, h, show aft false (d + 1) 288 10 [some (.ref 0), some (.int a1), some (.int a2), some (.int a3), some (.ref 145), none] [.int (nI 0), .ref 145] (some (.inr (3, σ1))) = Run false (d + 1) 288 21 [some (.ref 0), some (.int a1), some (.int a2), some (.int a3), some (.ref 145), none] [] σ1 from rfl, s288_21]
      all_goals rfl
    · rw [s288_0, h, show aft false (d + 1) 288 10 [some (.ref 0), some (.int a1), some (.int a2), some (.int a3), some (.ref 145), none] [.int (nI 0), .ref 145] (some (.inr (4, σ1))) = Run false (d + 1) 288 17 [some (.ref 0), some (.int a1), some (.int a2), some (.int a3), some (.ref 145), none] [] σ1 from rfl, s288_17]
      all_goals rfl

set_option maxRecDepth 100000 in
theorem w289 (a1 a2 : Int32) : WrO (fun d σ => Run false d 289 0 [some (.ref 0), some (.int a1), some (.int a2), some (.ref 145), none] [] σ) (fun d σ => Run false d 24 0 [some (.ref 0), some (.int a1), some (.int a2)] [] σ) isI (fun E => if E = 4 then 1 else if E = 1 then 2 else 0) := by
  refine ⟨fun d σ v σ1 hv h => ?_, fun d σ E σ1 h1 h2 h3 h => ?_⟩
  · obtain ⟨x, rfl⟩ := hv
    dsimp only at h ⊢
    rw [s289_0, h, aft_v, s289_8, ib0, cond_true, clp0]
    all_goals rfl
  · dsimp only at h h3 ⊢
    have hE : E = 1 ∨ E = 2 ∨ E = 3 ∨ E = 4 := by omega
    rcases hE with rfl | rfl | rfl | rfl
    · rw [s289_0, h, show aft false (d + 1) 289 8 [some (.ref 0), some (.int a1), some (.int a2), some (.ref 145), none] [.int (nI 0), .ref 145] (some (.inr (1, σ1))) = Run false (d + 1) 289 19 [some (.ref 0), some (.int a1), some (.int a2), some (.ref 145), none] [] σ1 from rfl, s289_19]
      all_goals rfl
    · exact absurd rfl h3
    · exact absurd rfl h3
    · rw [s289_0, h, show aft false (d + 1) 289 8 [some (.ref 0), some (.int a1), some (.int a2), some (.ref 145), none] [.int (nI 0), .ref 145] (some (.inr (4, σ1))) = Run false (d + 1) 289 15 [some (.ref 0), some (.int a1), some (.int a2), some (.ref 145), none] [] σ1 from rfl, s289_15]
      all_goals rfl

set_option maxRecDepth 100000 in
theorem w290 (a1 a2 a3 a4 a5 : Int32) : WrO (fun d σ => Run false d 290 0 [some (.ref 0), some (.int a1), some (.int a2), some (.int a3), some (.int a4), some (.int a5), some (.ref 145), none] [] σ) (fun d σ => Run false d 25 0 [some (.ref 0), some (.int a1), some (.int a2), some (.int a3), some (.int a4), some (.int a5)] [] σ) isL (fun E => if E = 3 then 1 else if E = 1 then 2 else 0) := by
  refine ⟨fun d σ v σ1 hv h => ?_, fun d σ E σ1 h1 h2 h3 h => ?_⟩
  · obtain ⟨x, rfl⟩ := hv
    dsimp only at h ⊢
    rw [s290_0, h, aft_v, s290_14, ib0, cond_true, clp0]
    all_goals rfl
  · dsimp only at h h3 ⊢
    have hE : E = 1 ∨ E = 2 ∨ E = 3 ∨ E = 4 := by omega
    rcases hE with rfl | rfl | rfl | rfl
    · rw [s290_0, h, show aft false (d + 1) 290 14 [some (.ref 0), some (.int a1), some (.int a2), some (.int a3), some (.int a4), some (.int a5), some (.ref 145), none] [.int (nI 0), .ref 145] (some (.inr (1, σ1))) = Run false (d + 1) 290 24 [some (.ref 0), some (.int a1), some (.int a2), some (.int a3), some (.int a4), some (.int a5), some (.ref 145), none] [] σ1 from rfl, s290_24]
      all_goals rfl
    · exact absurd rfl h3
    · rw [s290_0, h, show aft false (d + 1) 290 14 [some (.ref 0), some (.int a1), some (.int a2), some (.int a3), some (.int a4), some (.int a5), some (.ref 145), none] [.int (nI 0), .ref 145] (some (.inr (3, σ1))) = Run false (d + 1) 290 20 [some (.ref 0), some (.int a1), some (.int a2), some (.int a3), some (.int a4), some (.int a5), some (.ref 145), none] [] σ1 from rfl, s290_20]
      all_goals rfl
    · exact absurd rfl h3

set_option maxRecDepth 100000 in
theorem w291 (a1 a2 a3 : Int32) : WrO (fun d σ => Run false d 291 0 [some (.ref 0), some (.int a1), some (.int a2), some (.int a3), some (.ref 145), none] [] σ) (fun d σ => Run false d 26 0 [some (.ref 0), some (.int a1), some (.int a2), some (.int a3), none, none] [] σ) isI (fun E => if E = 1 then 1 else 0) := by
  refine ⟨fun d σ v σ1 hv h => ?_, fun d σ E σ1 h1 h2 h3 h => ?_⟩
  · obtain ⟨x, rfl⟩ := hv
    dsimp only at h ⊢
    rw [s291_0, h, aft_v, s291_10, ib0, cond_true, clp0]
    all_goals rfl
  · dsimp only at h h3 ⊢
    have hE : E = 1 ∨ E = 2 ∨ E = 3 ∨ E = 4 := by omega
    rcases hE with rfl | rfl | rfl | rfl
    · rw [s291_0, h, show aft false (d + 1) 291 10 [some (.ref 0), some (.int a1), some (.int a2), some (.int a3), some (.ref 145), none] [.int (nI 0), .ref 145] (some (.inr (1, σ1))) = Run false (d + 1) 291 17 [some (.ref 0), some (.int a1), some (.int a2), some (.int a3), some (.ref 145), none] [] σ1 from rfl, s291_17]
      all_goals rfl
    · exact absurd rfl h3
    · exact absurd rfl h3
    · exact absurd rfl h3

set_option maxRecDepth 100000 in
theorem w292 (a1 a2 a3 a4 a5 a6 a7 : Int32) : WrO (fun d σ => Run false d 292 0 [some (.ref 0), some (.int a1), some (.int a2), some (.int a3), some (.int a4), some (.int a5), some (.int a6), some (.int a7), some (.ref 145), none] [] σ) (fun d σ => Run false d 27 0 [some (.ref 0), some (.int a1), some (.int a2), some (.int a3), some (.int a4), some (.int a5), some (.int a6), some (.int a7), none, none] [] σ) isI (fun E => if E = 1 then 1 else 0) := by
  refine ⟨fun d σ v σ1 hv h => ?_, fun d σ E σ1 h1 h2 h3 h => ?_⟩
  · obtain ⟨x, rfl⟩ := hv
    dsimp only at h ⊢
    rw [s292_0, h, aft_v, s292_18, ib0, cond_true, clp0]
    all_goals rfl
  · dsimp only at h h3 ⊢
    have hE : E = 1 ∨ E = 2 ∨ E = 3 ∨ E = 4 := by omega
    rcases hE with rfl | rfl | rfl | rfl
    · rw [s292_0, h, show aft false (d + 1) 292 18 [some (.ref 0), some (.int a1), some (.int a2), some (.int a3), some (.int a4), some (.int a5), some (.int a6), some (.int a7), some (.ref 145), none] [.int (nI 0), .ref 145] (some (.inr (1, σ1))) = Run false (d + 1) 292 25 [some (.ref 0), some (.int a1), some (.int a2), some (.int a3), some (.int a4), some (.int a5), some (.int a6), some (.int a7), some (.ref 145), none] [] σ1 from rfl, s292_25]
      all_goals rfl
    · exact absurd rfl h3
    · exact absurd rfl h3
    · exact absurd rfl h3

set_option maxRecDepth 100000 in
theorem w293 (a1 a2 : Int32) : WrO (fun d σ => Run false d 293 0 [some (.ref 0), some (.int a1), some (.int a2), some (.ref 145), none] [] σ) (fun d σ => Run false d 28 0 [some (.ref 0), some (.int a1), some (.int a2)] [] σ) isI (fun E => if E = 3 then 1 else if E = 1 then 2 else 0) := by
  refine ⟨fun d σ v σ1 hv h => ?_, fun d σ E σ1 h1 h2 h3 h => ?_⟩
  · obtain ⟨x, rfl⟩ := hv
    dsimp only at h ⊢
    rw [s293_0, h, aft_v, s293_8, ib0, cond_true, clp0]
    all_goals rfl
  · dsimp only at h h3 ⊢
    have hE : E = 1 ∨ E = 2 ∨ E = 3 ∨ E = 4 := by omega
    rcases hE with rfl | rfl | rfl | rfl
    · rw [s293_0, h, show aft false (d + 1) 293 8 [some (.ref 0), some (.int a1), some (.int a2), some (.ref 145), none] [.int (nI 0), .ref 145] (some (.inr (1, σ1))) = Run false (d + 1) 293 19 [some (.ref 0), some (.int a1), some (.int a2), some (.ref 145), none] [] σ1 from rfl, s293_19]
      all_goals rfl
    · exact absurd rfl h3
    · rw [s293_0, h, show aft false (d + 1) 293 8 [some (.ref 0), some (.int a1), some (.int a2), some (.ref 145), none] [.int (nI 0), .ref 145] (some (.inr (3, σ1))) = Run false (d + 1) 293 15 [some (.ref 0), some (.int a1), some (.int a2), some (.ref 145), none] [] σ1 from rfl, s293_15]
      all_goals rfl
    · exact absurd rfl h3

set_option maxRecDepth 100000 in
theorem w294 (a1 a2 a3 a4 : Int32) : WrO (fun d σ => Run false d 294 0 [some (.ref 0), some (.int a1), some (.int a2), some (.int a3), some (.int a4), some (.ref 145), none] [] σ) (fun d σ => Run false d 29 0 [some (.ref 0), some (.int a1), some (.int a2), some (.int a3), some (.int a4)] [] σ) isI (fun E => if E = 3 then 1 else if E = 1 then 2 else 0) := by
  refine ⟨fun d σ v σ1 hv h => ?_, fun d σ E σ1 h1 h2 h3 h => ?_⟩
  · obtain ⟨x, rfl⟩ := hv
    dsimp only at h ⊢
    rw [s294_0, h, aft_v, s294_12, ib0, cond_true, clp0]
    all_goals rfl
  · dsimp only at h h3 ⊢
    have hE : E = 1 ∨ E = 2 ∨ E = 3 ∨ E = 4 := by omega
    rcases hE with rfl | rfl | rfl | rfl
    · rw [s294_0, h, show aft false (d + 1) 294 12 [some (.ref 0), some (.int a1), some (.int a2), some (.int a3), some (.int a4), some (.ref 145), none] [.int (nI 0), .ref 145] (some (.inr (1, σ1))) = Run false (d + 1) 294 23 [some (.ref 0), some (.int a1), some (.int a2), some (.int a3), some (.int a4), some (.ref 145), none] [] σ1 from rfl, s294_23]
      all_goals rfl
    · exact absurd rfl h3
    · rw [s294_0, h, show aft false (d + 1) 294 12 [some (.ref 0), some (.int a1), some (.int a2), some (.int a3), some (.int a4), some (.ref 145), none] [.int (nI 0), .ref 145] (some (.inr (3, σ1))) = Run false (d + 1) 294 19 [some (.ref 0), some (.int a1), some (.int a2), some (.int a3), some (.int a4), some (.ref 145), none] [] σ1 from rfl, s294_19]
      all_goals rfl
    · exact absurd rfl h3

set_option maxRecDepth 100000 in
theorem w295 (a1 : Int32) : WrO (fun d σ => Run false d 295 0 [some (.ref 0), some (.int a1), some (.ref 145), none] [] σ) (fun d σ => Run false d 30 0 [some (.ref 0), some (.int a1)] [] σ) isZ (fun E => if E = 3 then 1 else 0) := by
  refine ⟨fun d σ v σ1 hv h => ?_, fun d σ E σ1 h1 h2 h3 h => ?_⟩
  · dsimp only at h ⊢
    rcases hv with rfl | rfl
    · rw [s295_0, h, aft_v, s295_7, obl_t rfl, cond_true, ib0, cond_true, clp0, w64_0]
    · rw [s295_0, h, aft_v, s295_7, obl_f nI_10, cond_false, ib0, cond_true, clp0, w64_1]
  · dsimp only at h h3 ⊢
    have hE : E = 1 ∨ E = 2 ∨ E = 3 ∨ E = 4 := by omega
    rcases hE with rfl | rfl | rfl | rfl
    · exact absurd rfl h3
    · exact absurd rfl h3
    · rw [s295_0, h, show aft false (d + 1) 295 7 [some (.ref 0), some (.int a1), some (.ref 145), none] [.int (nI 0), .ref 145] (some (.inr (3, σ1))) = Run false (d + 1) 295 20 [some (.ref 0), some (.int a1), some (.ref 145), none] [] σ1 from rfl, s295_20]
      all_goals rfl
    · exact absurd rfl h3

set_option maxRecDepth 100000 in
theorem w296 (a1 a2 a3 : Int32) : WrO (fun d σ => Run false d 296 0 [some (.ref 0), some (.int a1), some (.int a2), some (.int a3), some (.ref 145), none] [] σ) (fun d σ => Run false d 31 0 [some (.ref 0), some (.int a1), some (.int a2), some (.int a3), none, none, none] [] σ) isL (fun E => if E = 3 then 1 else if E = 1 then 2 else 0) := by
  refine ⟨fun d σ v σ1 hv h => ?_, fun d σ E σ1 h1 h2 h3 h => ?_⟩
  · obtain ⟨x, rfl⟩ := hv
    dsimp only at h ⊢
    rw [s296_0, h, aft_v, s296_10, ib0, cond_true, clp0]
    all_goals rfl
  · dsimp only at h h3 ⊢
    have hE : E = 1 ∨ E = 2 ∨ E = 3 ∨ E = 4 := by omega
    rcases hE with rfl | rfl | rfl | rfl
    · rw [s296_0, h, show aft false (d + 1) 296 10 [some (.ref 0), some (.int a1), some (.int a2), some (.int a3), some (.ref 145), none] [.int (nI 0), .ref 145] (some (.inr (1, σ1))) = Run false (d + 1) 296 20 [some (.ref 0), some (.int a1), some (.int a2), some (.int a3), some (.ref 145), none] [] σ1 from rfl, s296_20]
      all_goals rfl
    · exact absurd rfl h3
    · rw [s296_0, h, show aft false (d + 1) 296 10 [some (.ref 0), some (.int a1), some (.int a2), some (.int a3), some (.ref 145), none] [.int (nI 0), .ref 145] (some (.inr (3, σ1))) = Run false (d + 1) 296 16 [some (.ref 0), some (.int a1), some (.int a2), some (.int a3), some (.ref 145), none] [] σ1 from rfl, s296_16]
      all_goals rfl
    · exact absurd rfl h3

set_option maxRecDepth 100000 in
theorem w297 (a1 a2 a3 : Int32) : WrO (fun d σ => Run false d 297 0 [some (.ref 0), some (.int a1), some (.int a2), some (.int a3), some (.ref 145), none] [] σ) (fun d σ => Run false d 32 0 [some (.ref 0), some (.int a1), some (.int a2), some (.int a3)] [] σ) isI (fun E => if E = 1 then 1 else 0) := by
  refine ⟨fun d σ v σ1 hv h => ?_, fun d σ E σ1 h1 h2 h3 h => ?_⟩
  · obtain ⟨x, rfl⟩ := hv
    dsimp only at h ⊢
    rw [s297_0, h, aft_v, s297_10, ib0, cond_true, clp0]
    all_goals rfl
  · dsimp only at h h3 ⊢
    have hE : E = 1 ∨ E = 2 ∨ E = 3 ∨ E = 4 := by omega
    rcases hE with rfl | rfl | rfl | rfl
    · rw [s297_0, h, show aft false (d + 1) 297 10 [some (.ref 0), some (.int a1), some (.int a2), some (.int a3), some (.ref 145), none] [.int (nI 0), .ref 145] (some (.inr (1, σ1))) = Run false (d + 1) 297 17 [some (.ref 0), some (.int a1), some (.int a2), some (.int a3), some (.ref 145), none] [] σ1 from rfl, s297_17]
      all_goals rfl
    · exact absurd rfl h3
    · exact absurd rfl h3
    · exact absurd rfl h3

set_option maxRecDepth 100000 in
theorem w298 (a1 a2 a3 a4 : Int32) : WrO (fun d σ => Run false d 298 0 [some (.ref 0), some (.int a1), some (.int a2), some (.int a3), some (.int a4), some (.ref 145), none] [] σ) (fun d σ => Run false d 33 0 [some (.ref 0), some (.int a1), some (.int a2), some (.int a3), some (.int a4), none] [] σ) isI (fun E => if E = 3 then 1 else if E = 1 then 2 else 0) := by
  refine ⟨fun d σ v σ1 hv h => ?_, fun d σ E σ1 h1 h2 h3 h => ?_⟩
  · obtain ⟨x, rfl⟩ := hv
    dsimp only at h ⊢
    rw [s298_0, h, aft_v, s298_12, ib0, cond_true, clp0]
    all_goals rfl
  · dsimp only at h h3 ⊢
    have hE : E = 1 ∨ E = 2 ∨ E = 3 ∨ E = 4 := by omega
    rcases hE with rfl | rfl | rfl | rfl
    · rw [s298_0, h, show aft false (d + 1) 298 12 [some (.ref 0), some (.int a1), some (.int a2), some (.int a3), some (.int a4), some (.ref 145), none] [.int (nI 0), .ref 145] (some (.inr (1, σ1))) = Run false (d + 1) 298 23 [some (.ref 0), some (.int a1), some (.int a2), some (.int a3), some (.int a4), some (.ref 145), none] [] σ1 from rfl, s298_23]
      all_goals rfl
    · exact absurd rfl h3
    · rw [s298_0, h, show aft false (d + 1) 298 12 [some (.ref 0), some (.int a1), some (.int a2), some (.int a3), some (.int a4), some (.ref 145), none] [.int (nI 0), .ref 145] (some (.inr (3, σ1))) = Run false (d + 1) 298 19 [some (.ref 0), some (.int a1), some (.int a2), some (.int a3), some (.int a4), some (.ref 145), none] [] σ1 from rfl, s298_19]
      all_goals rfl
    · exact absurd rfl h3

set_option maxRecDepth 100000 in
theorem w299 (a1 a2 a3 : Int32) : WrO (fun d σ => Run false d 299 0 [some (.ref 0), some (.int a1), some (.int a2), some (.int a3), some (.ref 145), none] [] σ) (fun d σ => Run false d 34 0 [some (.ref 0), some (.int a1), some (.int a2), some (.int a3), none, none] [] σ) isI (fun E => if E = 3 then 1 else if E = 1 then 2 else 0) := by
  refine ⟨fun d σ v σ1 hv h => ?_, fun d σ E σ1 h1 h2 h3 h => ?_⟩
  · obtain ⟨x, rfl⟩ := hv
    dsimp only at h ⊢
    rw [s299_0, h, aft_v, s299_10, ib0, cond_true, clp0]
    all_goals rfl
  · dsimp only at h h3 ⊢
    have hE : E = 1 ∨ E = 2 ∨ E = 3 ∨ E = 4 := by omega
    rcases hE with rfl | rfl | rfl | rfl
    · rw [s299_0, h, show aft false (d + 1) 299 10 [some (.ref 0), some (.int a1), some (.int a2), some (.int a3), some (.ref 145), none] [.int (nI 0), .ref 145] (some (.inr (1, σ1))) = Run false (d + 1) 299 21 [some (.ref 0), some (.int a1), some (.int a2), some (.int a3), some (.ref 145), none] [] σ1 from rfl, s299_21]
      all_goals rfl
    · exact absurd rfl h3
    · rw [s299_0, h, show aft false (d + 1) 299 10 [some (.ref 0), some (.int a1), some (.int a2), some (.int a3), some (.ref 145), none] [.int (nI 0), .ref 145] (some (.inr (3, σ1))) = Run false (d + 1) 299 17 [some (.ref 0), some (.int a1), some (.int a2), some (.int a3), some (.ref 145), none] [] σ1 from rfl, s299_17]
      all_goals rfl
    · exact absurd rfl h3

set_option maxRecDepth 100000 in
theorem w300 (a1 : Int32) : WrO (fun d σ => Run false d 300 0 [some (.ref 0), some (.int a1), some (.ref 145), none] [] σ) (fun d σ => Run false d 35 0 [some (.ref 0), some (.int a1)] [] σ) isI (fun E => if E = 3 then 1 else 0) := by
  refine ⟨fun d σ v σ1 hv h => ?_, fun d σ E σ1 h1 h2 h3 h => ?_⟩
  · obtain ⟨x, rfl⟩ := hv
    dsimp only at h ⊢
    rw [s300_0, h, aft_v, s300_7, ib0, cond_true, clp0]
    all_goals rfl
  · dsimp only at h h3 ⊢
    have hE : E = 1 ∨ E = 2 ∨ E = 3 ∨ E = 4 := by omega
    rcases hE with rfl | rfl | rfl | rfl
    · exact absurd rfl h3
    · exact absurd rfl h3
    · rw [s300_0, h, show aft false (d + 1) 300 7 [some (.ref 0), some (.int a1), some (.ref 145), none] [.int (nI 0), .ref 145] (some (.inr (3, σ1))) = Run false (d + 1) 300 13 [some (.ref 0), some (.int a1), some (.ref 145), none] [] σ1 from rfl, s300_13]
      all_goals rfl
    · exact absurd rfl h3

set_option maxRecDepth 100000 in
theorem w301 (a1 a2 a3 a4 a5 : Int32) : WrO (fun d σ => Run false d 301 0 [some (.ref 0), some (.int a1), some (.int a2), some (.int a3), some (.int a4), some (.int a5), some (.ref 145), none] [] σ) (fun d σ => Run false d 36 0 [some (.ref 0), some (.int a1), some (.int a2), some (.int a3), some (.int a4), some (.int a5)] [] σ) isI (fun E => if E = 4 then 1 else if E = 1 then 2 else 0) := by
  refine ⟨fun d σ v σ1 hv h => ?_, fun d σ E σ1 h1 h2 h3 h => ?_⟩
  · obtain ⟨x, rfl⟩ := hv
    dsimp only at h ⊢
    rw [s301_0, h, aft_v, s301_14, ib0, cond_true, clp0]
    all_goals rfl
  · dsimp only at h h3 ⊢
    have hE : E = 1 ∨ E = 2 ∨ E = 3 ∨ E = 4 := by omega
    rcases hE with rfl | rfl | rfl | rfl
    · rw [s301_0, h, show aft false (d + 1) 301 14 [some (.ref 0), some (.int a1), some (.int a2), some (.int a3), some (.int a4), some (.int a5), some (.ref 145), none] [.int (nI 0), .ref 145] (some (.inr (1, σ1))) = Run false (d + 1) 301 25 [some (.ref 0), some (.int a1), some (.int a2), some (.int a3), some (.int a4), some (.int a5), some (.ref 145), none] [] σ1 from rfl, s301_25]
      all_goals rfl
    · exact absurd rfl h3
    · exact absurd rfl h3
    · rw [s301_0, h, show aft false (d + 1) 301 14 [some (.ref 0), some (.int a1), some (.int a2), some (.int a3), some (.int a4), some (.int a5), some (.ref 145), none] [.int (nI 0), .ref 145] (some (.inr (4, σ1))) = Run false (d + 1) 301 21 [some (.ref 0), some (.int a1), some (.int a2), some (.int a3), some (.int a4), some (.int a5), some (.ref 145), none] [] σ1 from rfl, s301_21]
      all_goals rfl

set_option maxRecDepth 100000 in
theorem w302 (a1 a2 a3 a4 : Int32) : WrO (fun d σ => Run false d 302 0 [some (.ref 0), some (.int a1), some (.int a2), some (.int a3), some (.int a4), some (.ref 145), none] [] σ) (fun d σ => Run false d 37 0 [some (.ref 0), some (.int a1), some (.int a2), some (.int a3), some (.int a4), none] [] σ) isI (fun E => if E = 4 then 1 else if E = 1 then 2 else 0) := by
  refine ⟨fun d σ v σ1 hv h => ?_, fun d σ E σ1 h1 h2 h3 h => ?_⟩
  · obtain ⟨x, rfl⟩ := hv
    dsimp only at h ⊢
    rw [s302_0, h, aft_v, s302_12, ib0, cond_true, clp0]
    all_goals rfl
  · dsimp only at h h3 ⊢
    have hE : E = 1 ∨ E = 2 ∨ E = 3 ∨ E = 4 := by omega
    rcases hE with rfl | rfl | rfl | rfl
    · rw [s302_0, h, show aft false (d + 1) 302 12 [some (.ref 0), some (.int a1), some (.int a2), some (.int a3), some (.int a4), some (.ref 145), none] [.int (nI 0), .ref 145] (some (.inr (1, σ1))) = Run false (d + 1) 302 23 [some (.ref 0), some (.int a1), some (.int a2), some (.int a3), some (.int a4), some (.ref 145), none] [] σ1 from rfl, s302_23]
      all_goals rfl
    · exact absurd rfl h3
    · exact absurd rfl h3
    · rw [s302_0, h, show aft false (d + 1) 302 12 [some (.ref 0), some (.int a1), some (.int a2), some (.int a3), some (.int a4), some (.ref 145), none] [.int (nI 0), .ref 145] (some (.inr (4, σ1))) = Run false (d + 1) 302 19 [some (.ref 0), some (.int a1), some (.int a2), some (.int a3), some (.int a4), some (.ref 145), none] [] σ1 from rfl, s302_19]
      all_goals rfl

set_option maxRecDepth 100000 in
theorem w303 (a1 a2 a3 : Int32) : WrO (fun d σ => Run false d 303 0 [some (.ref 0), some (.int a1), some (.int a2), some (.int a3), some (.ref 145), none] [] σ) (fun d σ => Run false d 38 0 [some (.ref 0), some (.int a1), some (.int a2), some (.int a3)] [] σ) isI (fun E => if E = 4 then 1 else if E = 1 then 2 else 0) := by
  refine ⟨fun d σ v σ1 hv h => ?_, fun d σ E σ1 h1 h2 h3 h => ?_⟩
  · obtain ⟨x, rfl⟩ := hv
    dsimp only at h ⊢
    rw [s303_0, h, aft_v, s303_10, ib0, cond_true, clp0]
    all_goals rfl
  · dsimp only at h h3 ⊢
    have hE : E = 1 ∨ E = 2 ∨ E = 3 ∨ E = 4 := by omega
    rcases hE with rfl | rfl | rfl | rfl
    · rw [s303_0, h, show aft false (d + 1) 303 10 [some (.ref 0), some (.int a1), some (.int a2), some (.int a3), some (.ref 145), none] [.int (nI 0), .ref 145] (some (.inr (1, σ1))) = Run false (d + 1) 303 21 [some (.ref 0), some (.int a1), some (.int a2), some (.int a3), some (.ref 145), none] [] σ1 from rfl, s303_21]
      all_goals rfl
    · exact absurd rfl h3
    · exact absurd rfl h3
    · rw [s303_0, h, show aft false (d + 1) 303 10 [some (.ref 0), some (.int a1), some (.int a2), some (.int a3), some (.ref 145), none] [.int (nI 0), .ref 145] (some (.inr (4, σ1))) = Run false (d + 1) 303 17 [some (.ref 0), some (.int a1), some (.int a2), some (.int a3), some (.ref 145), none] [] σ1 from rfl, s303_17]
      all_goals rfl

set_option maxRecDepth 100000 in
theorem w304 (a1 : Int32) : WrO (fun d σ => Run false d 304 0 [some (.ref 0), some (.int a1), some (.ref 145), none] [] σ) (fun d σ => Run false d 39 0 [some (.ref 0), some (.int a1), none, none, none, none, none] [] σ) isI (fun E => if E = 1 then 1 else 0) := by
  refine ⟨fun d σ v σ1 hv h => ?_, fun d σ E σ1 h1 h2 h3 h => ?_⟩
  · obtain ⟨x, rfl⟩ := hv
    dsimp only at h ⊢
    rw [s304_0, h, aft_v, s304_7, ib0, cond_true, clp0]
    all_goals rfl
  · dsimp only at h h3 ⊢
    have hE : E = 1 ∨ E = 2 ∨ E = 3 ∨ E = 4 := by omega
    rcases hE with rfl | rfl | rfl | rfl
    · rw [s304_0, h, show aft false (d + 1) 304 7 [some (.ref 0), some (.int a1), some (.ref 145), none] [.int (nI 0), .ref 145] (some (.inr (1, σ1))) = Run false (d + 1) 304 13 [some (.ref 0), some (.int a1), some (.ref 145), none] [] σ1 from rfl, s304_13]
      all_goals rfl
    · exact absurd rfl h3
    · exact absurd rfl h3
    · exact absurd rfl h3

set_option maxRecDepth 100000 in
theorem w305 (a1 a2 : Int32) : WrO (fun d σ => Run false d 305 0 [some (.ref 0), some (.int a1), some (.int a2), some (.ref 145), none] [] σ) (fun d σ => Run false d 40 0 [some (.ref 0), some (.int a1), some (.int a2), none, none, none, none] [] σ) isI (fun E => if E = 4 then 1 else if E = 1 then 2 else 0) := by
  refine ⟨fun d σ v σ1 hv h => ?_, fun d σ E σ1 h1 h2 h3 h => ?_⟩
  · obtain ⟨x, rfl⟩ := hv
    dsimp only at h ⊢
    rw [s305_0, h, aft_v, s305_8, ib0, cond_true, clp0]
    all_goals rfl
  · dsimp only at h h3 ⊢
    have hE : E = 1 ∨ E = 2 ∨ E = 3 ∨ E = 4 := by omega
    rcases hE with rfl | rfl | rfl | rfl
    · rw [s305_0, h, show aft false (d + 1) 305 8 [some (.ref 0), some (.int a1), some (.int a2), some (.ref 145), none] [.int (nI 0), .ref 145] (some (.inr (1, σ1))) = Run false (d + 1) 305 19 [some (.ref 0), some (.int a1), some (.int a2), some (.ref 145), none] [] σ1 from rfl, s305_19]
      all_goals rfl
    · exact absurd rfl h3
    · exact absurd rfl h3
    · rw [s305_0, h, show aft false (d + 1) 305 8 [some (.ref 0), some (.int a1), some (.int a2), some (.ref 145), none] [.int (nI 0), .ref 145] (some (.inr (4, σ1))) = Run false (d + 1) 305 15 [some (.ref 0), some (.int a1), some (.int a2), some (.ref 145), none] [] σ1 from rfl, s305_15]
      all_goals rfl
