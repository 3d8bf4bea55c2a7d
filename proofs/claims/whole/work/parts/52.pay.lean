/-! THE PURE PROOFS: what a town is paid -/
/-- the coins for a sort of a load -/
noncomputable def gN (σ : PS) (t y : Nat) (nu : Nat → Nat) (l s : Nat) : Nat := bif obl (AI σ 122 l = nI t) then (bif obl (AI σ 123 l = nI y) then (AI σ 64 (5 * l + s)).toNatClampNeg * nu s / 1000 / (1 + (AI σ 62 l).toNatClampNeg) else 0) else 0
theorem sumN_swap {g : Nat → Nat → Nat} {m : Nat} : ∀ n, sumN (fun s => sumN (fun l => g l s) n) m = sumN (fun l => sumN (fun s => g l s) m) n := by
  have add : ∀ (f h : Nat → Nat) m, sumN (fun s => f s + h s) m = sumN f m + sumN h m := by
    intro f h m
    induction m with
    | zero => rfl
    | succ m ih =>
      show sumN (fun s => f s + h s) m + (f m + h m) = sumN f m + f m + (sumN h m + h m)
      omega
  intro n
  induction n with
  | zero =>
    show sumN (fun _ => 0) m = 0
    have : sumN (fun _ => 0) m ≤ m * 0 := sumN_le m (fun _ _ => Nat.le_refl _)
    omega
  | succ n ih =>
    show sumN (fun s => sumN (fun l => g l s) n + g n s) m = sumN (fun l => sumN (fun s => g l s) m) n + sumN (fun s => g n s) m
    rw [add, ih]
theorem mxg {g : Nat} (h : g < 2 ^ 31) : (if nI 0 < nI g then nI g else nI 0) = nI g := by
  by_cases q : 0 < g
  · rw [if_pos (nI_lt q h)]
  · rw [if_neg (nI_nlt (by omega) (by omega)), show g = 0 by omega]
theorem l1000 : obl (lN 1000 = lN 0) = false := obl_f (by decide +kernel)
section PY
variable {d nL : Nat} {σ : PS} {t y : Nat} {nu : Nat → Nat}
theorem ld_at (h : IO_ σ) (hq : FI σ 85 62 = nI nL) (hq2 : nL ≤ 60) {l : Nat} (hl : l < nL) : AI σ 63 l = AI σ 122 l ∧ AI σ 61 l = AI σ 123 l ∧ (∀ s, s < 5 → ∃ v, v ≤ 20000 ∧ AI σ 64 (5 * l + s) = nI v ∧ ∀ d, 1 ≤ d → Run false d 246 0 [some (.ref 85), some (.int (nI l)), some (.int (nI s))] [] σ = some (.inl (some (.int (nI v)), σ))) ∧ ∃ g, g < 4 ∧ AI σ 62 l = nI g ∧ ∀ d, 1 ≤ d → Run false d 247 0 [some (.ref 85), some (.int (nI l)), none] [] σ = some (.inl (some (.int (nI g)), σ)) := by
  obtain ⟨n, q', h1, h2, h3, h4, h5, h6, hL, -, -⟩ := h
  have : nL = n := (nI_eq (by omega) (by omega)).mp (hq.symm.trans h3)
  subst this
  obtain ⟨t, y, k, u, p, b1, b2, b3, b4, b5, f1, f2, f3, f4, f5, f6, f7, f8⟩ := hL l hl
  refine ⟨by rw [f1, f2], by rw [f3, f4], fun s hs => ?_, grdN (p 4), ?_, f7, fun d hd => ?_⟩
  · obtain ⟨p1, p2, p3⟩ := f8 s hs
    exact ⟨outN k (p s) u, outN_le b4 p1, p3, fun d hd => c246 hd (by omega) hs b4 p1 b5 f5 p2 f6⟩
  · unfold grdN
    split
    · decide
    · split
      · decide
      · split <;> decide
  · obtain ⟨p1, p2, p3⟩ := f8 4 (by decide)
    exact c247 hd (by omega) p1 p2
theorem gN_le (h : IO_ σ) (hq : FI σ 85 62 = nI nL) (hq2 : nL ≤ 60) (hn : ∀ s, nu s ≤ 9999) {l s : Nat} (hl : l < nL) (hs : s < 5) : gN σ t y nu l s ≤ 200000 := by
  obtain ⟨-, -, f, -⟩ := ld_at h hq hq2 hl
  obtain ⟨v, hv, e, -⟩ := f s hs
  unfold gN
  cases obl (AI σ 122 l = nI t)
  · exact Nat.zero_le _
  · cases obl (AI σ 123 l = nI y)
    · exact Nat.zero_le _
    · show (AI σ 64 (5 * l + s)).toNatClampNeg * nu s / 1000 / (1 + (AI σ 62 l).toNatClampNeg) ≤ 200000
      rw [e, nI_clamp (by omega)]
      have h1 : v * nu s ≤ 20000 * 9999 := Nat.mul_le_mul hv (hn s)
      exact Nat.le_trans (Nat.div_le_self _ _) (by omega)
theorem gS_le (h : IO_ σ) (hq : FI σ 85 62 = nI nL) (hq2 : nL ≤ 60) (hn : ∀ s, nu s ≤ 9999) : sumN (fun s => sumN (fun l => gN σ t y nu l s) nL) 5 ≤ 10 ^ 9 := by
  have h1 : ∀ s, s < 5 → sumN (fun l => gN σ t y nu l s) nL ≤ 60 * 200000 := fun s hs => Nat.le_trans (sumN_le nL (fun l hl => gN_le h hq hq2 hn hl hs)) (Nat.mul_le_mul_right _ hq2)
  have h2 := sumN_le 5 h1
  omega
theorem c109 {s : Nat} (hd : 2 ≤ d) (h : IO_ σ) (hq : FI σ 85 62 = nI nL) (hqc : FI σ 60 0 = nI nL) (hq2 : nL ≤ 60) (hn : ∀ s, nu s ≤ 9999) (hs : s < 5) : Run false d 109 0 [some (.ref 60), some (.int (nI t)), some (.int (nI y)), some (.int (nI s)), some (.int (nI (nu s))), none, none, none] [] σ = some (.inl (some (.long (lN (sumN (fun l => gN σ t y nu l s) nL))), σ)) := by
  obtain ⟨d, rfl⟩ := dS (show 1 ≤ d by omega)
  rw [s109_0]
  refine (lpU (f := fun j => Run false (d + 1) 109 6 [some (.ref 60), some (.int (nI t)), some (.int (nI y)), some (.int (nI s)), some (.int (nI (nu s))), some (.long (lN (sumN (fun l => gN σ t y nu l s) j))), none, some (.int (nI j))] [] σ) (n := nL) (fun j hj => ?_) 0 (Nat.zero_le _)).trans ?_
  · obtain ⟨e1, e2, f, g, hg, eg, -⟩ := ld_at h hq hq2 hj
    obtain ⟨v, hv, ev, -⟩ := f s hs
    have hns := hn s
    have h1 : v * nu s ≤ 20000 * 9999 := Nat.mul_le_mul hv hns
    show Run false (d + 1) 109 6 _ [] σ = Run false (d + 1) 109 6 [some (.ref 60), some (.int (nI t)), some (.int (nI y)), some (.int (nI s)), some (.int (nI (nu s))), some (.long (lN (sumN (fun l => gN σ t y nu l s) j + gN σ t y nu j s))), none, some (.int (nI (j + 1)))] [] σ
    rw [s109_6, hqc, oleF hj (by omega), cond_false, inbT (by omega) (by decide), cond_true, cond_true, nI_clamp (by omega), e1, e2, c107 (by omega) (by omega) hs, aft_v, s109_46, l1000, cond_false, inbT (by omega) (by decide), cond_true, nI_clamp (by omega), eg, mxg (by omega), nI_add, nI_l (by omega), LLe (by omega) (by decide), Nbf (by omega), cond_false, ev, nI_l (by omega), nI_l (by omega), lN_mul, lN_quo (by omega) (by decide) (by decide), lN_quo (by omega) (by omega) (by omega), lN_add, nI_add]
    unfold gN
    rw [ev, eg, nI_clamp (by omega), nI_clamp (by omega)]
    cases obl (AI σ 122 j = nI t)
    · rfl
    · cases obl (AI σ 123 j = nI y) <;> rfl
  · show Run false (d + 1) 109 6 _ [] σ = _
    rw [s109_6, hqc, oleT (Nat.le_refl _) (by omega), cond_true]
end PY
section PZ
variable {d nL y M nS : Nat} {σ : PS} {t : Nat} {LS : List LAW} {dec : Nat → Nat → Nat} {sm : Nat → Prop} {inn smb : Nat → Int32} {k : Int32}
/-- the coins of a town -/
noncomputable def pyN (σ : PS) (LS : List LAW) (t y nL : Nat) : Nat := sumN (fun s => sumN (fun l => gN σ t y (fun s => numV (clL LS 3 s y) 0) l s) nL) 5
noncomputable def w5N (inn smb : Nat → Int32) (dec : Nat → Nat → Nat) (M k : Nat) : Nat := sumN (fun s => wgN inn smb dec (nI k) s M) 5
theorem w5N_b (h : ∀ m s, dec m s ≤ 10000000) (hM : M ≤ 10) {k : Nat} : w5N inn smb dec M k ≤ 5 * 10 ^ 8 := by
  have h1 : ∀ s, s < 5 → wgN inn smb dec (nI k) s M ≤ 100000000 := fun s _ => Nat.le_trans (Nat.le_trans (wgN_le h M) (Nat.mul_le_mul_right _ hM)) (by decide)
  have h2 := sumN_le 5 h1
  exact Nat.le_trans h2 (by decide)
theorem pyN_le (h : IO_ σ) (hq : FI σ 85 62 = nI nL) (hq2 : nL ≤ 60) (hn : ∀ s, s < 5 → numV (clL LS 3 s y) 0 ≤ 9999) : pyN σ LS t y nL ≤ 10 ^ 9 := by
  have h1 : ∀ s, s < 5 → sumN (fun l => gN σ t y (fun s => numV (clL LS 3 s y) 0) l s) nL = sumN (fun l => gN σ t y (fun s => min (numV (clL LS 3 s y) 0) 9999) l s) nL := fun s hs => sumN_c nL (fun l _ => by
    unfold gN
    have := hn s hs
    show (bif _ then (bif _ then _ * numV (clL LS 3 s y) 0 / 1000 / _ else 0) else 0) = (bif _ then (bif _ then _ * min (numV (clL LS 3 s y) 0) 9999 / 1000 / _ else 0) else 0)
    rw [Nat.min_eq_left this])
  unfold pyN
  rw [sumN_c 5 h1]
  exact gS_le h hq hq2 (fun s => Nat.min_le_right _ _)
theorem c87 {c : Int32} (hd : 3 ≤ d) (h : CW σ LS M nS dec sm inn) : Run false d 87 0 [some (.ref 36), some (.int c), none, none, none] [] σ = some (.inl (some (.long (lN (sumN (fun s => wgN inn (fun m => b1 (sm m)) dec c s M) 5))), σ)) := by
  obtain ⟨d, rfl⟩ := dS (show 1 ≤ d by omega)
  rw [s87_0]
  refine (lpU (f := fun j => Run false (d + 1) 87 5 [some (.ref 36), some (.int c), some (.long (lN (sumN (fun s => wgN inn (fun m => b1 (sm m)) dec c s M) j))), none, some (.int (nI j))] [] σ) (n := 5) (fun j hj => ?_) 0 (Nat.zero_le _)).trans ?_
  · show _ = Run false (d + 1) 87 5 [some (.ref 36), some (.int c), some (.long (lN (sumN (fun s => wgN inn (fun m => b1 (sm m)) dec c s M) j + wgN inn (fun m => b1 (sm m)) dec c j M))), none, some (.int (nI (j + 1)))] [] σ
    rw [s87_5, oleF hj (by decide), cond_false, c86 (by omega) h hj, aft_v, s87_19, lN_add, nI_add]
  · show Run false (d + 1) 87 5 _ [] σ = _
    rw [s87_5, oleT (Nat.le_refl _) (by decide), cond_true]
/-- the class: what a town is paid, all of it -/
theorem c31_a {a3 : Int32} (hd : 3 ≤ d) (hy : y ≤ 40) (hC : LC LS σ) (h : IO_ σ) (hq : FI σ 85 62 = nI nL) (hqc : FI σ 60 0 = nI nL) (hq2 : nL ≤ 60) : Run false (d + 1) 31 21 [some (.ref 0), some (.int (nI t)), some (.int (nI y)), some (.int a3), some (.long (lN 0)), none, some (.int (nI 0))] [] σ = Run false (d + 1) 31 21 [some (.ref 0), some (.int (nI t)), some (.int (nI y)), some (.int a3), some (.long (lN (pyN σ LS t y nL))), none, some (.int (nI 5))] [] σ := by
  have hn : ∀ s, s < 5 → numV (clL LS 3 s y) 0 ≤ 9999 := fun s hs => num_any (k := 3) (d := 0) (atC_ok (clF_C (k := 3) (s := s) (y := y) hC)) (by decide)
  refine lpU (f := fun j => Run false (d + 1) 31 21 [some (.ref 0), some (.int (nI t)), some (.int (nI y)), some (.int a3), some (.long (lN (sumN (fun s => sumN (fun l => gN σ t y (fun s => numV (clL LS 3 s y) 0) l s) nL) j))), none, some (.int (nI j))] [] σ) (n := 5) (fun j hj => ?_) 0 (Nat.zero_le _)
  have k1 : Run false d 100 0 [some (.ref 1), some (.int (nI 213)), some (.int (nI j)), some (.int (nI y)), some (.int (nI 0)), none] [] σ = some (.inl (some (.int (nI (numV (clL LS 3 j y) 0))), σ)) := c100 (k := 3) (s := j) (by omega) (by decide) (by omega) hy hC
  have k2 := c109 (d := d) (t := t) (y := y) (s := j) (nu := fun s => if s = j then numV (clL LS 3 j y) 0 else 0) (by omega) h hq hqc hq2 (fun s => by
    show (if s = j then _ else 0) ≤ 9999
    have := hn j hj
    split <;> omega) hj
  have k3 : sumN (fun l => gN σ t y (fun s => if s = j then numV (clL LS 3 j y) 0 else 0) l j) nL = sumN (fun l => gN σ t y (fun s => numV (clL LS 3 s y) 0) l j) nL := sumN_c nL (fun l _ => by
    unfold gN
    show (bif _ then (bif _ then _ * (if j = j then numV (clL LS 3 j y) 0 else 0) / 1000 / _ else 0) else 0) = _
    rw [if_pos rfl])
  rw [k3] at k2
  have k4 : Run false d 109 0 [some (.ref 60), some (.int (nI t)), some (.int (nI y)), some (.int (nI j)), some (.int (nI (numV (clL LS 3 j y) 0))), none, none, none] [] σ = some (.inl (some (.long (lN (sumN (fun l => gN σ t y (fun s => numV (clL LS 3 s y) 0) l j) nL))), σ)) := by
    have e : (if j = j then numV (clL LS 3 j y) 0 else 0) = numV (clL LS 3 j y) 0 := if_pos rfl
    rw [← k2]
    show _ = Run false d 109 0 [some (.ref 60), some (.int (nI t)), some (.int (nI y)), some (.int (nI j)), some (.int (nI (if j = j then numV (clL LS 3 j y) 0 else 0))), none, none, none] [] σ
    rw [e]
  show _ = Run false (d + 1) 31 21 [some (.ref 0), some (.int (nI t)), some (.int (nI y)), some (.int a3), some (.long (lN (sumN (fun s => sumN (fun l => gN σ t y (fun s => numV (clL LS 3 s y) 0) l s) nL) j + sumN (fun l => gN σ t y (fun s => numV (clL LS 3 s y) 0) l j) nL))), none, some (.int (nI (j + 1)))] [] σ
  rw [s31_21, oleF hj (by decide), cond_false, k1, aft_v, s31_51, k4, aft_v, s31_54, lN_add, nI_add]
/-- the class: a scheme's part -/
theorem c31_b {c all : Nat} {a1 a2 : Int32} (hd : 4 ≤ d) (h : CW σ LS M nS dec sm inn) (hc : c < nS) (ha : all ≤ 10 ^ 9) : ∃ τ, Pt 40 42 σ τ ∧ Run false (d + 1) 31 83 [some (.ref 0), some (.int a1), some (.int a2), some (.int (nI c)), some (.long (lN all)), none, some (.int (nI 0))] [] σ = some (.inl (some (.long (prtN (w5N inn (fun m => b1 (sm m)) dec M) all nS c)), τ)) := by
  have e31 := h.2.2.2.1
  have hS := h.2.2.2.2.2.1
  have hM := h.2.2.2.2.1
  have hb := h.2.2.2.2.2.2
  obtain ⟨τ1, ⟨p1, z1⟩, r1⟩ := lpS (P := fun j τ => Pt 40 42 σ τ ∧ ∀ i, i < j → AL τ 40 i = lN (w5N inn (fun m => b1 (sm m)) dec M i)) (R := fun j τ => Run false (d + 1) 31 83 [some (.ref 0), some (.int a1), some (.int a2), some (.int (nI c)), some (.long (lN all)), none, some (.int (nI j))] [] τ) (n := nS) (fun j τ hj hp => by
    refine ⟨wAL τ 40 j (lN (w5N inn (fun m => b1 (sm m)) dec M j)), ⟨pt_al hp.1 (by decide) (by decide), fun i hi => ?_⟩, ?_⟩
    · by_cases w : i = j
      · subst w; exact AL_q
      · rw [AL_n (Or.inr w)]; exact hp.2 i (by omega)
    · show Run false (d + 1) 31 83 _ [] τ = _
      rw [s31_83, hp.1.2.1, e31, oleF hj (by omega), cond_false, c87 (by omega) (CW_pt h hp.1), aft_v, s31_113, inbT (by omega) (by decide), cond_true, nI_clamp (by omega), nI_add]
      rfl) 0 σ (Nat.zero_le _) ⟨pt_r, fun i hi => absurd hi (by omega)⟩
  obtain ⟨τ2, p2, z2, r2⟩ := c89 (d := d) (σ := τ1) (n := nS) (all := all) (w := w5N inn (fun m => b1 (sm m)) dec M) (by omega) (by omega) z1 ha (fun i => w5N_b hb hM)
  refine ⟨τ2, pt_t p1 (pt_w p2 (by decide) (by decide)), r1.trans ?_⟩
  show Run false (d + 1) 31 83 _ [] τ1 = _
  rw [s31_83, p1.2.1, e31, oleT (Nat.le_refl _) (by omega), cond_true, r2, aft_n, s31_136, inbT (by omega) (by decide), cond_true, nI_clamp (by omega), z2 c hc]
/-- the model: all of it -/
theorem c252_a {a3 : Int32} (hd : 3 ≤ d) (hy : y ≤ 40) (hL : LM LS none σ) (h : IO_ σ) (hq : FI σ 85 62 = nI nL) (hq2 : nL ≤ 60) : ∃ z7, Run false (d + 1) 252 61 [some (.ref 85), some (.int (nI t)), some (.int (nI y)), some (.int a3), some (.long (lN 0)), none, some (.int (nI 0)), none] [] σ = Run false (d + 1) 252 61 [some (.ref 85), some (.int (nI t)), some (.int (nI y)), some (.int a3), some (.long (lN (pyN σ LS t y nL))), none, some (.int (nI nL)), z7] [] σ := by
  have hn : ∀ s, s < 5 → numV (clL LS 3 s y) 0 ≤ 9999 := fun s hs => num_any (k := 3) (d := 0) (atM_ok (clX_M (k := 3) (s := s) (y := y) hL)) (by decide)
  have key : ∀ m j z7, j + m = nL → ∃ z7', Run false (d + 1) 252 61 [some (.ref 85), some (.int (nI t)), some (.int (nI y)), some (.int a3), some (.long (lN (sumN (fun l => sumN (fun s => gN σ t y (fun s => numV (clL LS 3 s y) 0) l s) 5) j))), none, some (.int (nI j)), z7] [] σ = Run false (d + 1) 252 61 [some (.ref 85), some (.int (nI t)), some (.int (nI y)), some (.int a3), some (.long (lN (sumN (fun l => sumN (fun s => gN σ t y (fun s => numV (clL LS 3 s y) 0) l s) 5) nL))), none, some (.int (nI nL)), z7'] [] σ := by
    intro m
    induction m with
    | zero =>
      intro j z7 hj
      have : j = nL := by omega
      subst this
      exact ⟨z7, rfl⟩
    | succ m ih =>
      intro j z7 hj
      have hj2 : j < nL := by omega
      obtain ⟨e1, e2, f, g, hg, eg, rg⟩ := ld_at h hq hq2 hj2
      rw [s252_61, hq, oleF hj2 (by omega), cond_false, inbT (by omega) (by decide), cond_true, cond_true, nI_clamp (by omega)]
      have zr : (bif obl (AI σ 122 j = nI t) then obl (AI σ 123 j = nI y) else false) = false → sumN (fun l => sumN (fun s => gN σ t y (fun s => numV (clL LS 3 s y) 0) l s) 5) (j + 1) = sumN (fun l => sumN (fun s => gN σ t y (fun s => numV (clL LS 3 s y) 0) l s) 5) j := by
        intro w
        show _ + sumN (fun s => gN σ t y (fun s => numV (clL LS 3 s y) 0) j s) 5 = _
        have : sumN (fun s => gN σ t y (fun s => numV (clL LS 3 s y) 0) j s) 5 ≤ 5 * 0 := sumN_le 5 (fun s _ => by
          unfold gN
          cases q1 : obl (AI σ 122 j = nI t)
          · exact Nat.le_refl _
          · cases q2 : obl (AI σ 123 j = nI y)
            · exact Nat.le_refl _
            · rw [q1, q2] at w; cases w)
        omega
      cases q1 : obl (AI σ 122 j = nI t)
      · rw [q1] at zr
        obtain ⟨z', r⟩ := ih (j + 1) z7 (by omega)
        rw [zr rfl] at r
        exact ⟨z', by rw [nI_add]; exact r⟩
      · cases q2 : obl (AI σ 123 j = nI y)
        · rw [q1, q2] at zr
          obtain ⟨z', r⟩ := ih (j + 1) z7 (by omega)
          rw [zr rfl] at r
          exact ⟨z', by rw [nI_add]; exact r⟩
        · obtain ⟨z', r⟩ := ih (j + 1) (some (.int (nI 5))) (by omega)
          refine ⟨z', ?_⟩
          refine Eq.trans ?_ r
          show Run false (d + 1) 252 98 _ [] σ = _
          refine (lpU (f := fun i => Run false (d + 1) 252 98 [some (.ref 85), some (.int (nI t)), some (.int (nI y)), some (.int a3), some (.long (lN (sumN (fun l => sumN (fun s => gN σ t y (fun s => numV (clL LS 3 s y) 0) l s) 5) j + sumN (fun s => gN σ t y (fun s => numV (clL LS 3 s y) 0) j s) i))), none, some (.int (nI j)), some (.int (nI i))] [] σ) (n := 5) (fun i hi => ?_) 0 (Nat.zero_le _)).trans ?_
          · obtain ⟨v, hv, ev, rv⟩ := f i hi
            have hns := hn i hi
            have h1 : v * numV (clL LS 3 i y) 0 ≤ 20000 * 9999 := Nat.mul_le_mul hv hns
            have k1 : Run false d 200 0 [some (.ref 85), some (.int (nI 3)), some (.int (nI i)), some (.int (nI y)), none] [] σ = some (.inl (some (.int (nI (numV (clL LS 3 i y) 0))), σ)) := c200 (k := 3) (s := i) (X := none) (by omega) (by decide) (by omega) hy hL
            have eg2 : gN σ t y (fun s => numV (clL LS 3 s y) 0) j i = v * numV (clL LS 3 i y) 0 / 1000 / (1 + g) := by
              unfold gN
              rw [q1, q2, ev, eg, nI_clamp (by omega), nI_clamp (by omega)]
              rfl
            show Run false (d + 1) 252 98 _ [] σ = Run false (d + 1) 252 98 [some (.ref 85), some (.int (nI t)), some (.int (nI y)), some (.int a3), some (.long (lN (sumN (fun l => sumN (fun s => gN σ t y (fun s => numV (clL LS 3 s y) 0) l s) 5) j + (sumN (fun s => gN σ t y (fun s => numV (clL LS 3 s y) 0) j s) i + gN σ t y (fun s => numV (clL LS 3 s y) 0) j i)))), none, some (.int (nI j)), some (.int (nI (i + 1)))] [] σ
            rw [eg2, s252_98, oleF hi (by decide), cond_false, rv d (by omega), aft_v, s252_114, k1, aft_v, s252_123, l1000, cond_false, rg d (by omega), aft_v, s252_136, nI_add, nI_l (by omega), LLe (by omega) (by decide), Nbf (by omega), cond_false, nI_l (by omega), nI_l (by omega), lN_mul, lN_quo (by omega) (by decide) (by decide), lN_quo (by omega) (by omega) (by omega), lN_add, nI_add, Nat.add_assoc]
          · show Run false (d + 1) 252 98 _ [] σ = _
            rw [s252_98, oleT (Nat.le_refl _) (by decide), cond_true, nI_add]
            rfl
  obtain ⟨z', r⟩ := key nL 0 none (by omega)
  refine ⟨z', ?_⟩
  unfold pyN
  rw [sumN_swap]
  exact r
theorem c252_b {c all : Nat} {a1 : Int32} {z7 : Option Value} (hd : 11 ≤ d) (hk : FI σ 85 1 = k) (h : MW σ LS y k M nS dec smb inn) (hc : c < nS) (ha : all ≤ 10 ^ 9) : ∃ τ, Pt 119 121 σ τ ∧ Run false (d + 1) 252 165 [some (.ref 85), some (.int a1), some (.int (nI y)), some (.int (nI c)), some (.long (lN all)), none, some (.int (nI 0)), z7] [] σ = some (.inl (some (.long (prtN (w5N inn smb dec M) all nS c)), τ)) := by
  obtain ⟨e29, e52, hM, hS, hL, hX, f⟩ := id h
  have hb := hX.1
  obtain ⟨τ1, ⟨p1, z1⟩, r1⟩ := lpS (P := fun j τ => Pt 119 121 σ τ ∧ ∀ i, i < j → AL τ 119 i = lN (w5N inn smb dec M i)) (R := fun j τ => Run false (d + 1) 252 165 [some (.ref 85), some (.int a1), some (.int (nI y)), some (.int (nI c)), some (.long (lN all)), none, some (.int (nI j)), bif Nat.beq j 0 then z7 else some (.int (nI 5))] [] τ) (n := nS) (fun j τ hj hp => by
    obtain ⟨τ', ⟨q1, q2, q3⟩, r2⟩ := lpS (P := fun i τ => Pt 119 121 σ τ ∧ (∀ i, i < j → AL τ 119 i = lN (w5N inn smb dec M i)) ∧ AL τ 119 j = lN (sumN (fun s => wgN inn smb dec (nI j) s M) i)) (R := fun i τ => Run false (d + 1) 252 185 [some (.ref 85), some (.int a1), some (.int (nI y)), some (.int (nI c)), some (.long (lN all)), none, some (.int (nI j)), some (.int (nI i))] [] τ) (n := 5) (fun i τ hi hp => by
      obtain ⟨u1, u2, u3⟩ := hp
      refine ⟨wAL τ 119 j (lN (sumN (fun s => wgN inn smb dec (nI j) s M) (i + 1))), ⟨pt_al u1 (by decide) (by decide), fun i' hi' => ?_, AL_q⟩, ?_⟩
      · rw [AL_n (Or.inr (by omega))]; exact u2 i' hi'
      · show Run false (d + 1) 252 185 _ [] τ = _
        rw [s252_185, oleF hi (by decide), cond_false, inbT (by omega) (by decide), cond_true, nI_clamp (by omega), u3, u1.2.1, hk, c236 (by omega) (MW_off h (pt_M u1)) hi, aft_v, s252_212, inbT (by omega) (by decide), cond_true, nI_clamp (by omega), lN_add, nI_add]
        rfl) 0 (wAL τ 119 j (lN 0)) (Nat.zero_le _) ⟨pt_al hp.1 (by decide) (by decide), fun i hi => by rw [AL_n (Or.inr (by omega))]; exact hp.2 i hi, AL_q⟩
    refine ⟨τ', ⟨q1, fun i hi => ?_⟩, ?_⟩
    · by_cases w : i = j
      · subst w; exact q3
      · exact q2 i (by omega)
    · show Run false (d + 1) 252 165 _ [] τ = Run false (d + 1) 252 165 [some (.ref 85), some (.int a1), some (.int (nI y)), some (.int (nI c)), some (.long (lN all)), none, some (.int (nI (j + 1))), some (.int (nI 5))] [] τ'
      rw [s252_165, hp.1.2.1, e52, oleF hj (by omega), cond_false, inbT (by omega) (by decide), cond_true, nI_clamp (by omega)]
      refine r2.trans ?_
      show Run false (d + 1) 252 185 _ [] τ' = _
      rw [s252_185, oleT (Nat.le_refl _) (by decide), cond_true, nI_add]) 0 σ (Nat.zero_le _) ⟨pt_r, fun i hi => absurd hi (by omega)⟩
  obtain ⟨τ2, p2, z2, r2⟩ := c237 (d := d) (σ := τ1) (n := nS) (all := all) (w := w5N inn smb dec M) (by omega) (by omega) z1 ha (fun i => w5N_b hb hM)
  refine ⟨τ2, pt_t p1 (pt_w p2 (by decide) (by decide)), r1.trans ?_⟩
  show Run false (d + 1) 252 165 _ [] τ1 = _
  rw [s252_165, p1.2.1, e52, oleT (Nat.le_refl _) (by omega), cond_true, r2, aft_n, s252_236, inbT (by omega) (by decide), cond_true, nI_clamp (by omega), z2 c hc]
end PZ
