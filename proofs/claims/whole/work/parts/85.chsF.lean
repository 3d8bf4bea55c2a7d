/-! THE PURE PROOFS: the cheapest makes: the class's search -/
noncomputable def StC (σ υ : PS) (LS : List LAW) (y m n least : Nat) (oth : Nat → Nat) : Prop := SFx σ υ LS y least oth ∧ FI υ 48 0 = nI (ChN σ m n) ∧ ∀ i, i < ChN σ m n → CellA σ υ LS y i (pkX σ m n i)
noncomputable def RwC (σ υ : PS) (LS : List LAW) (y m n : Nat) (row : Rw) (i : Nat) : Prop := (∀ j, j < i → AI υ 51 j = nI (row j)) ∧ (∀ s, s < 5 → ∀ j, j ≤ i → AI υ 57 (5 * j + s) = KKx σ LS y m n s row j ∧ AI υ 58 (5 * j + s) = GGx σ m n s row j) ∧ ∀ j, j ≤ i → AI υ 59 j = nI (LLx σ m n row j)
def BsC (υ : PS) (C : Nat) (S : SSt) : Prop := match S with
  | none => FL υ 48 1 = -1
  | some (t, r) => FL υ 48 1 = lN t ∧ t < 2 ^ 62 ∧ ∀ j, j < C → AI υ 50 j = nI (r j)
theorem lpZ {P : Nat → PS → Prop} {R : Nat → Option Value → PS → Option PO} {n : Nat} (h : ∀ j z τ, j < n → P j τ → ∃ z' τ', P (j + 1) τ' ∧ R j z τ = R (j + 1) z' τ') : ∀ j z τ, j ≤ n → P j τ → ∃ z' τ', P n τ' ∧ R j z τ = R n z' τ' := by
  intro j z τ hj hp
  obtain ⟨k, rfl⟩ : ∃ k, n = j + k := ⟨n - j, by omega⟩
  clear hj
  induction k generalizing j z τ with
  | zero => exact ⟨z, τ, hp, rfl⟩
  | succ k ih =>
    obtain ⟨z1, τ1, p1, e1⟩ := h j z τ (by omega) hp
    have e : j + (k + 1) = j + 1 + k := by omega
    rw [e] at h ⊢
    obtain ⟨z2, τ2, p2, e2⟩ := ih (j + 1) z1 τ1 p1 h
    exact ⟨z2, τ2, p2, e1.trans e2⟩
section CS
variable {d y m n i p k least : Nat} {LS : List LAW} {σ τ υ : PS} {oth : Nat → Nat} {row : Rw} {S : SSt}
theorem stC_c (h : StC σ υ LS y m n least oth) (ho : Off υ τ) (e1 : ∀ k, k ≤ 1 → FI τ 43 k = FI υ 43 k) (e2 : ∀ s, AI τ 44 s = AI υ 44 s ∧ AI τ 46 s = AI υ 46 s) (e3 : FI τ 48 0 = FI υ 48 0) (e4 : ∀ o j, o = 49 ∨ (52 ≤ o ∧ o ≤ 56) → AI τ o j = AI υ o j) : StC σ τ LS y m n least oth := ⟨sfx_c h.1 (off_t h.1.1 ho) e1 e2, e3.trans h.2.1, fun i hi => cellA_c (h.2.2 i hi) (fun o j hh => e4 o j (by omega))⟩
theorem rwC_c (h : RwC σ υ LS y m n row i) (e : ∀ o j, o = 51 ∨ o = 57 ∨ o = 58 ∨ o = 59 → AI τ o j = AI υ o j) : RwC σ τ LS y m n row i := ⟨fun j hj => (e 51 j (by omega)).trans (h.1 j hj), fun s hs j hj => ⟨(e 57 _ (by omega)).trans (h.2.1 s hs j hj).1, (e 58 _ (by omega)).trans (h.2.1 s hs j hj).2⟩, fun j hj => (e 59 j (by omega)).trans (h.2.2 j hj)⟩
theorem bsC_c {C : Nat} (h : BsC υ C S) (e1 : FL τ 48 1 = FL υ 48 1) (e2 : ∀ j, AI τ 50 j = AI υ 50 j) : BsC τ C S := by
  cases S with
  | none => exact e1.trans h
  | some x => exact ⟨e1.trans h.1, h.2.1, fun j hj => (e2 j).trans (h.2.2 j hj)⟩
theorem kk_u {s k j : Nat} (hj : j ≤ i) : KKx σ LS y m n s (updR row i k) j = KKx σ LS y m n s row j ∧ GGx σ m n s (updR row i k) j = GGx σ m n s row j ∧ LLx σ m n (updR row i k) j = LLx σ m n row j := by
  refine ⟨?_, ?_, ?_⟩
  · unfold KKx
    exact bsG_c j (fun a ha => by rw [updR_n (by omega)])
  · unfold GGx
    exact bsG_c j (fun a ha => by rw [updR_n (by omega)])
  · unfold LLx
    exact bsG_c j (fun a ha => by rw [updR_n (by omega)])
theorem rwC_u {k : Nat} (h : RwC σ υ LS y m n (updR row i k) (i + 1)) : RwC σ υ LS y m n row i := by
  refine ⟨fun j hj => ?_, fun s hs j hj => ?_, fun j hj => ?_⟩
  · rw [h.1 j (by omega), updR_n (by omega)]
  · obtain ⟨a, b, c⟩ := kk_u (σ := σ) (LS := LS) (y := y) (m := m) (n := n) (row := row) (s := s) (k := k) hj
    rw [(h.2.1 s hs j (by omega)).1, (h.2.1 s hs j (by omega)).2, a, b]; exact ⟨rfl, rfl⟩
  · obtain ⟨a, b, c⟩ := kk_u (σ := σ) (LS := LS) (y := y) (m := m) (n := n) (row := row) (s := 0) (k := k) hj
    rw [h.2.2 j (by omega), c]
/-- one make put into the row -/
theorem c73 (hd : 1 ≤ d) (hi : i < ChN σ m n) (hS : StC σ υ LS y m n least oth) (hR : RwC σ υ LS y m n row i) (hk : k < mkX σ m n i) : ∃ υ', StC σ υ' LS y m n least oth ∧ RwC σ υ' LS y m n (updR row i k) (i + 1) ∧ FL υ' 48 1 = FL υ 48 1 ∧ (∀ j, AI υ' 50 j = AI υ 50 j) ∧ Run false d 73 0 [some (.ref 48), some (.int (nI i)), some (.int (nI k)), none, none, none] [] υ = some (.inl (none, υ')) := by
  obtain ⟨d, rfl⟩ := dS hd
  have hC5 : ChN σ m n ≤ 5 := chL_5 n
  obtain ⟨M, e98, hM, e49, hc⟩ := hS.2.2 i hi
  have hkM : k < M := by unfold mkX at hk; rw [e98, nI_clamp (by omega)] at hk; exact hk
  obtain ⟨c1, c2, c3, c4⟩ := hc k hkM
  have eL := hR.2.2 i (Nat.le_refl _)
  have e5 : i * 5 + k = 5 * i + k := by omega
  have lb : LLx σ m n row i ≤ 5 := by
    have : ∀ j, LLx σ m n row j ≤ 5 := by
      intro j
      induction j with
      | zero => exact lBs_5 n
      | succ j ih =>
        have := @layM_le σ (pkX σ m n j) (row j)
        show max (LLx σ m n row j) (layM σ (pkX σ m n j) (row j)) ≤ 5
        omega
    exact this i
  have l5 := @layM_le σ (pkX σ m n i) k
  have e59 : (if AI υ 59 i < AI υ 54 (5 * i + k) then AI υ 54 (5 * i + k) else AI υ 59 i) = nI (LLx σ m n (updR row i k) (i + 1)) := by
    have e6 : LLx σ m n (updR row i k) (i + 1) = max (LLx σ m n row i) (layM σ (pkX σ m n i) k) := by
      show max (LLx σ m n (updR row i k) i) (layM σ (pkX σ m n i) (updR row i k i)) = _
      rw [(kk_u (σ := σ) (LS := LS) (y := y) (m := m) (n := n) (row := row) (s := 0) (k := k) (Nat.le_refl i)).2.2, updR_q]
    rw [e6, eL, c3]
    by_cases w : LLx σ m n row i < layM σ (pkX σ m n i) k
    · rw [if_pos (nI_lt w (by omega)), Nat.max_eq_right (by omega)]
    · rw [if_neg (nI_nlt (by omega) (by omega)), Nat.max_eq_left (by omega)]
  have e0 : ∀ s, (i * 5 + s) + 5 = 5 * (i + 1) + s := fun s => by omega
  obtain ⟨z2, υ2, ⟨q1, q2, q3, q4, q5⟩, r2⟩ := lpZ (P := fun s υ' => Off υ υ' ∧ (∀ o k, FI υ' o k = FI υ o k) ∧ FL υ' 48 1 = FL υ 48 1 ∧ (∀ s', s' < s → AI υ' 57 (5 * (i + 1) + s') = KKx σ LS y m n s' (updR row i k) (i + 1) ∧ AI υ' 58 (5 * (i + 1) + s') = GGx σ m n s' (updR row i k) (i + 1)) ∧ ∀ o j, ¬ (57 ≤ o ∧ o ≤ 58 ∧ 5 * (i + 1) ≤ j) → AI υ' o j = AI (wAI (wAI υ 51 i (nI k)) 59 (i + 1) (nI (LLx σ m n (updR row i k) (i + 1)))) o j) (R := fun s z υ' => Run false (d + 1) 73 39 [some (.ref 48), some (.int (nI i)), some (.int (nI k)), some (.int (nI (5 * i + k))), some (.int (nI s)), z] [] υ') (n := 5) (fun s z υ' hs hp' => by
    obtain ⟨q1, q2, q3, q4, q5⟩ := hp'
    obtain ⟨k1, k2, -⟩ := kk_u (σ := σ) (LS := LS) (y := y) (m := m) (n := n) (row := row) (s := s) (k := k) (Nat.le_refl i)
    have a57 : AI υ' 57 (5 * i + s) = KKx σ LS y m n s row i := by
      rw [q5 57 _ (by omega), AI_n (by omega), AI_n (by omega)]; exact (hR.2.1 s hs i (Nat.le_refl _)).1
    have a58 : AI υ' 58 (5 * i + s) = GGx σ m n s row i := by
      rw [q5 58 _ (by omega), AI_n (by omega), AI_n (by omega)]; exact (hR.2.1 s hs i (Nat.le_refl _)).2
    have a55 : AI υ' 55 (25 * i + 5 * k + s) = kE σ LS y s (pkX σ m n i) k := by
      rw [q5 55 _ (by omega), AI_n (by omega), AI_n (by omega)]; exact (c4 s hs).1
    have a56 : AI υ' 56 (25 * i + 5 * k + s) = grM σ (pkX σ m n i) k s := by
      rw [q5 56 _ (by omega), AI_n (by omega), AI_n (by omega)]; exact (c4 s hs).2
    have eK : KKx σ LS y m n s row i + kE σ LS y s (pkX σ m n i) k = KKx σ LS y m n s (updR row i k) (i + 1) := by
      show _ = KKx σ LS y m n s (updR row i k) i + kE σ LS y s (pkX σ m n i) (updR row i k i)
      rw [k1, updR_q]
    have eG : GGx σ m n s row i + grM σ (pkX σ m n i) k s = GGx σ m n s (updR row i k) (i + 1) := by
      show _ = GGx σ m n s (updR row i k) i + grM σ (pkX σ m n i) (updR row i k i) s
      rw [k2, updR_q]
    have e6 : i * 5 + s = 5 * i + s := by omega
    have e7 : (5 * i + k) * 5 + s = 25 * i + 5 * k + s := by omega
    have e8 : 5 * i + s + 5 = 5 * (i + 1) + s := by omega
    refine ⟨some (.int (nI (5 * i + s))), wAI (wAI υ' 57 (5 * (i + 1) + s) (KKx σ LS y m n s (updR row i k) (i + 1))) 58 (5 * (i + 1) + s) (GGx σ m n s (updR row i k) (i + 1)), ⟨off_ai (off_ai q1 rfl) rfl, fun o k => q2 o k, q3, fun s' hs' => ?_, fun o j hj => ?_⟩, ?_⟩
    · rcases Nat.lt_or_ge s' s with w | w
      · rw [AI_n (by omega), AI_n (by omega), AI_n (by omega), AI_n (by omega)]; exact q4 s' w
      · have : s' = s := by omega
        subst this
        rw [AI_n (by omega), AI_q, AI_q]; exact ⟨rfl, rfl⟩
    · rw [AI_n (by omega), AI_n (by omega)]; exact q5 o j hj
    · show Run false (d + 1) 73 39 _ [] υ' = _
      rw [s73_39, oleF hs (by decide), cond_false, nI_mul, nI_add, nI_mul, nI_add, nI_add, nI_add, e6, e7, e8, inbT (by omega) (by decide), cond_true, inbT (by omega) (by decide), cond_true, inbT (by omega) (by decide), cond_true, cond_true, cond_true, cond_true, nI_clamp (by omega), nI_clamp (by omega), nI_clamp (by omega), a57, a58, a55, a56, eK, eG]) 0 none (wAI (wAI υ 51 i (nI k)) 59 (i + 1) (nI (LLx σ m n (updR row i k) (i + 1)))) (Nat.zero_le _) ⟨off_ai (off_ai off_r rfl) rfl, fun o k => rfl, rfl, fun s' hs' => absurd hs' (Nat.not_lt_zero s'), fun o j hj => rfl⟩
  have key : ∀ o j, ¬ (57 ≤ o ∧ o ≤ 58 ∧ 5 * (i + 1) ≤ j) → ¬ (o = 51 ∧ j = i) → ¬ (o = 59 ∧ j = i + 1) → AI υ2 o j = AI υ o j := fun o j a b c => by
    rw [q5 o j a, AI_n (by omega), AI_n (by omega)]
  refine ⟨υ2, stC_c hS q1 (fun k hk => q2 43 k) (fun s => ⟨key 44 s (by omega) (by omega) (by omega), key 46 s (by omega) (by omega) (by omega)⟩) (q2 48 0) (fun o j ho => key o j (by omega) (by omega) (by omega)), ⟨fun j hj => ?_, fun s hs j hj => ?_, fun j hj => ?_⟩, q3, fun j => key 50 j (by omega) (by omega) (by omega), ?_⟩
  · by_cases w : j = i
    · subst w
      rw [q5 51 j (by omega), AI_n (by omega), AI_q, updR_q]
    · rw [key 51 j (by omega) (by omega) (by omega), updR_n w]; exact hR.1 j (by omega)
  · by_cases w : j = i + 1
    · subst w; exact q4 s hs
    · obtain ⟨k1, k2, -⟩ := kk_u (σ := σ) (LS := LS) (y := y) (m := m) (n := n) (row := row) (s := s) (k := k) (show j ≤ i by omega)
      rw [key 57 _ (by omega) (by omega) (by omega), key 58 _ (by omega) (by omega) (by omega), k1, k2]
      exact hR.2.1 s hs j (by omega)
  · by_cases w : j = i + 1
    · subst w
      rw [q5 59 _ (by omega), AI_q]
    · rw [key 59 j (by omega) (by omega) (by omega), (kk_u (σ := σ) (LS := LS) (y := y) (m := m) (n := n) (row := row) (s := 0) (k := k) (show j ≤ i by omega)).2.2]
      exact hR.2.2 j (by omega)
  · have r2' : Run false (d + 1) 73 39 [some (.ref 48), some (.int (nI i)), some (.int (nI k)), some (.int (nI (5 * i + k))), some (.int (nI 0)), none] [] (wAI (wAI υ 51 i (nI k)) 59 (i + 1) (nI (LLx σ m n (updR row i k) (i + 1)))) = Run false (d + 1) 73 39 [some (.ref 48), some (.int (nI i)), some (.int (nI k)), some (.int (nI (5 * i + k))), some (.int (nI 5)), z2] [] υ2 := r2
    rw [s73_0, inbT (show i < 5 by omega) (by decide), cond_true, inbT (show i < 6 by omega) (by decide), cond_true, nI_mul, nI_add, nI_add, e5, inbT (show 5 * i + k < 25 by omega) (by decide), cond_true, inbT (show i + 1 < 6 by omega) (by decide), cond_true, nI_clamp (by omega), nI_clamp (by omega), nI_clamp (by omega), e59, r2', s73_39, oleT (Nat.le_refl _) (by decide), cond_true]
end CS
