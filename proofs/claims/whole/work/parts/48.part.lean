/-! THE PURE PROOFS: a whole parted by weights -/
def updL (f : Nat → Int64) (k : Nat) (v : Int64) : Nat → Int64 := fun j => if j = k then v else f j
/-- who of the first n has the highest rest -/
noncomputable def bsN (r : Nat → Int64) : Nat → Nat
  | 0 => 0
  | j + 1 => bif Nat.beq j 0 then 0 else (bif obl (lg_cmp (r j) (r (bsN r j)) ≤ nI 0) then bsN r j else j)
theorem bsN_s {r : Nat → Int64} {j : Nat} : bsN r (j + 1 + 1) = bif obl (lg_cmp (r (j + 1)) (r (bsN r (j + 1))) ≤ nI 0) then bsN r (j + 1) else j + 1 := rfl
theorem bsN_lt {r : Nat → Int64} : ∀ n, bsN r (n + 1) < n + 1 := by
  intro n
  induction n with
  | zero => exact Nat.zero_lt_one
  | succ n ih =>
    rw [bsN_s]
    cases obl (lg_cmp (r (n + 1)) (r (bsN r (n + 1))) ≤ nI 0)
    · exact Nat.lt_succ_self _
    · exact Nat.lt_succ_of_lt ih
theorem bsN_1 {r : Nat → Int64} : bsN r (0 + 1) = 0 := rfl
theorem bsN_c {r r' : Nat → Int64} : ∀ n, (∀ k, k < n + 1 → r k = r' k) → bsN r (n + 1) = bsN r' (n + 1) := by
  intro n
  induction n with
  | zero => intro _; rw [bsN_1, bsN_1]
  | succ n ih =>
    intro h
    have i1 := ih (fun k hk => h k (Nat.lt_succ_of_lt hk))
    have i2 := h (n + 1) (Nat.lt_succ_self _)
    have i3 := h (bsN r' (n + 1)) (Nat.lt_succ_of_lt (bsN_lt n))
    rw [bsN_s, bsN_s, i1, i2, i3]
noncomputable def givK (h r : Nat → Int64) (n : Nat) : Nat → (Nat → Int64) × (Nat → Int64)
  | 0 => (h, r)
  | j + 1 => (updL (givK h r n j).1 (bsN (givK h r n j).2 n) ((givK h r n j).1 (bsN (givK h r n j).2 n) + lN 1), updL (givK h r n j).2 (bsN (givK h r n j).2 n) (-1))
def flN (w : Nat → Nat) (all S k : Nat) : Nat := all * w k / S
def ovN (w : Nat → Nat) (all S n : Nat) : Nat := all - sumN (flN w all S) n
noncomputable def prtN (w : Nat → Nat) (all n : Nat) : Nat → Int64 := bif Nat.beq (sumN w n) 0 then (fun _ => lN 0) else (givK (fun k => lN (flN w all (sumN w n) k)) (fun k => lN (all * w k % sumN w n)) n (ovN w all (sumN w n) n)).1
theorem sum_fl {w : Nat → Nat} {all S : Nat} (hS : 0 < S) : ∀ n, S * sumN (flN w all S) n ≤ all * sumN w n ∧ all * sumN w n ≤ S * sumN (flN w all S) n + n * S := by
  intro n
  induction n with
  | zero => exact ⟨Nat.le_refl _, by show all * 0 ≤ _; omega⟩
  | succ n ih =>
    obtain ⟨i1, i2⟩ := ih
    have h1 : S * flN w all S n ≤ all * w n := Nat.mul_div_le _ _
    have h2 : all * w n < S * flN w all S n + S := Nat.lt_mul_div_succ _ hS
    have e1 : S * sumN (flN w all S) (n + 1) = S * sumN (flN w all S) n + S * flN w all S n := Nat.mul_add _ _ _
    have e2 : all * sumN w (n + 1) = all * sumN w n + all * w n := Nat.mul_add _ _ _
    have e3 : (n + 1) * S = n * S + S := Nat.succ_mul _ _
    omega
theorem fl_le {w : Nat → Nat} {all n : Nat} (hS : 0 < sumN w n) : sumN (flN w all (sumN w n)) n ≤ all ∧ ovN w all (sumN w n) n ≤ n := by
  obtain ⟨h1, h2⟩ := sum_fl (w := w) (all := all) hS n
  constructor
  · refine Nat.le_of_mul_le_mul_left ?_ hS
    rw [Nat.mul_comm (sumN w n) all]
    exact h1
  · have : all ≤ sumN (flN w all (sumN w n)) n + n := by
      refine Nat.le_of_mul_le_mul_left ?_ hS
      rw [Nat.mul_add, Nat.mul_comm (sumN w n) all, Nat.mul_comm (sumN w n) n]
      exact h2
    unfold ovN
    omega
theorem fl_s {w : Nat → Nat} {all S j n : Nat} (hj : j < n) : sumN (flN w all S) j + flN w all S j ≤ sumN (flN w all S) n := by
  show sumN (flN w all S) (j + 1) ≤ _
  induction n with
  | zero => omega
  | succ n ih =>
    rcases Nat.lt_or_ge j n with q | q
    · exact Nat.le_trans (ih q) (Nat.le_add_right _ _)
    · have : j = n := by omega
      subst this
      exact Nat.le_refl _
/-- only long arrays from a to b change -/
def Pt (a b : Nat) (σ τ : PS) : Prop := XX τ = XX σ ∧ FI τ = FI σ ∧ FL τ = FL σ ∧ AI τ = AI σ ∧ ∀ o, (o < a ∨ b < o) → AL τ o = AL σ o
section PT
variable {a b : Nat} {σ τ υ : PS}
theorem pt_r : Pt a b σ σ := ⟨rfl, rfl, rfl, rfl, fun _ _ => rfl⟩
theorem pt_t (h : Pt a b σ τ) (g : Pt a b τ υ) : Pt a b σ υ := ⟨g.1.trans h.1, g.2.1.trans h.2.1, g.2.2.1.trans h.2.2.1, g.2.2.2.1.trans h.2.2.2.1, fun o q => (g.2.2.2.2 o q).trans (h.2.2.2.2 o q)⟩
theorem pt_al {o k : Nat} {v : Int64} (h : Pt a b σ τ) (h1 : a ≤ o) (h2 : o ≤ b) : Pt a b σ (wAL τ o k v) := by
  refine pt_t h ⟨rfl, rfl, rfl, rfl, fun o' q => ?_⟩
  funext j
  rw [AL_l, if_neg (by omega)]
theorem pt_w {a' b' : Nat} (h : Pt a b σ τ) (h1 : a' ≤ a) (h2 : b ≤ b') : Pt a' b' σ τ := ⟨h.1, h.2.1, h.2.2.1, h.2.2.2.1, fun o q => h.2.2.2.2 o (by omega)⟩
theorem pt_off (h : Pt a b σ τ) (hs : ∀ o, a ≤ o → o ≤ b → scA o = true) : Off σ τ := by
  refine ⟨h.1, fun o k _ => ⟨by rw [h.2.1], by rw [h.2.2.1]⟩, fun o q => ⟨by rw [h.2.2.2.1], h.2.2.2.2 o ?_⟩⟩
  rcases Nat.lt_or_ge o a with c | c
  · exact Or.inl c
  · rcases Nat.lt_or_ge b o with e | e
    · exact Or.inr e
    · rw [hs o c e] at q; cases q
theorem pt_C (h : Pt 40 42 σ τ) : Off σ τ := pt_off h (fun o h1 h2 => by
  have : o = 40 ∨ o = 41 ∨ o = 42 := by omega
  rcases this with rfl | rfl | rfl <;> rfl)
theorem pt_M (h : Pt 119 121 σ τ) : Off σ τ := pt_off h (fun o h1 h2 => by
  have : o = 119 ∨ o = 120 ∨ o = 121 := by omega
  rcases this with rfl | rfl | rfl <;> rfl)
end PT
section PA
variable {d n all : Nat} {σ : PS} {w : Nat → Nat}
theorem giv_w {o1 o2 n j : Nat} {τ : PS} {h r : Nat → Int64} (ho : o1 ≠ o2) (hp : ∀ k, k < n + 1 → AL τ o1 k = (givK h r (n + 1) j).1 k ∧ AL τ o2 k = (givK h r (n + 1) j).2 k) : ∀ k, k < n + 1 → AL (wAL (wAL τ o1 (bsN (AL τ o2) (n + 1)) (AL τ o1 (bsN (AL τ o2) (n + 1)) + lN 1)) o2 (bsN (AL τ o2) (n + 1)) (-1)) o1 k = (givK h r (n + 1) (j + 1)).1 k ∧ AL (wAL (wAL τ o1 (bsN (AL τ o2) (n + 1)) (AL τ o1 (bsN (AL τ o2) (n + 1)) + lN 1)) o2 (bsN (AL τ o2) (n + 1)) (-1)) o2 k = (givK h r (n + 1) (j + 1)).2 k := by
  intro k hk
  have eb : bsN (AL τ o2) (n + 1) = bsN (givK h r (n + 1) j).2 (n + 1) := bsN_c n (fun k hk => (hp k hk).2)
  have lb := bsN_lt (r := (givK h r (n + 1) j).2) n
  rw [eb, (hp _ lb).1]
  show _ = updL _ _ _ k ∧ _ = updL _ _ _ k
  unfold updL
  constructor
  · rw [AL_l, if_neg (by omega), AL_l]
    by_cases q : k = bsN (givK h r (n + 1) j).2 (n + 1)
    · rw [if_pos ⟨rfl, q⟩, if_pos q]
    · rw [if_neg (by omega), if_neg q]; exact (hp k hk).1
  · rw [AL_l]
    by_cases q : k = bsN (givK h r (n + 1) j).2 (n + 1)
    · rw [if_pos ⟨rfl, q⟩, if_pos q]
    · rw [if_neg (by omega), if_neg q, AL_l, if_neg (by omega)]; exact (hp k hk).2
theorem c90 (hd : 1 ≤ d) (hn : n < 10) : Run false d 90 0 [some (.ref 36), some (.int (nI (n + 1))), none, none] [] σ = some (.inl (none, wAL (wAL σ 41 (bsN (AL σ 42) (n + 1)) (AL σ 41 (bsN (AL σ 42) (n + 1)) + lN 1)) 42 (bsN (AL σ 42) (n + 1)) (-1))) := by
  obtain ⟨d, rfl⟩ := dS hd
  have lb := bsN_lt (r := AL σ 42) n
  rw [s90_0]
  refine (lpU (f := fun j => Run false (d + 1) 90 4 [some (.ref 36), some (.int (nI (n + 1))), some (.int (nI (bsN (AL σ 42) (j + 1)))), some (.int (nI (j + 1)))] [] σ) (n := n) (fun j hj => ?_) 0 (Nat.zero_le _)).trans ?_
  · have lj := bsN_lt (r := AL σ 42) j
    show _ = Run false (d + 1) 90 4 [some (.ref 36), some (.int (nI (n + 1))), some (.int (nI (bsN (AL σ 42) (j + 1 + 1)))), some (.int (nI (j + 1 + 1)))] [] σ
    rw [bsN_s, s90_4, oleF (by omega) (by omega), cond_false, inbT (by omega) (by decide), cond_true, inbT (by omega) (by decide), cond_true, nI_clamp (by omega), nI_clamp (by omega), nI_add]
    cases obl (lg_cmp (AL σ 42 (j + 1)) (AL σ 42 (bsN (AL σ 42) (j + 1))) ≤ nI 0) <;> rfl
  · show Run false (d + 1) 90 4 _ [] σ = _
    rw [s90_4, oleT (Nat.le_refl _) (by omega), cond_true, inbT (by omega) (by decide), cond_true, cond_true, cond_true, nI_clamp (by omega)]
theorem c89 (hd : 2 ≤ d) (hn : n ≤ 10) (hw : ∀ k, k < n → AL σ 40 k = lN (w k)) (ha : all ≤ 10 ^ 9) (hb : ∀ k, w k ≤ 5 * 10 ^ 8) : ∃ τ, Pt 41 42 σ τ ∧ (∀ k, k < n → AL τ 41 k = prtN w all n k) ∧ Run false d 89 0 [some (.ref 36), some (.long (lN all)), none, some (.int (nI n)), none, none, none, none, none] [] σ = some (.inl (none, τ)) := by
  obtain ⟨d, rfl⟩ := dS (show 1 ≤ d by omega)
  have hsum : ∀ j, j ≤ n → sumN w j ≤ 10 * (5 * 10 ^ 8) := fun j hj => Nat.le_trans (sumN_le j (fun i _ => hb i)) (Nat.mul_le_mul (by omega) (Nat.le_refl _))
  have hmul : ∀ k, all * w k ≤ 10 ^ 9 * (5 * 10 ^ 8) := fun k => Nat.mul_le_mul ha (hb k)
  obtain ⟨τ1, ⟨p1, z1⟩, r1⟩ := lpS (P := fun j τ => Pt 41 42 σ τ ∧ ∀ k, k < j → AL τ 41 k = lN 0) (R := fun j τ => Run false (d + 1) 89 6 [some (.ref 36), some (.long (lN all)), none, some (.int (nI n)), some (.long (lN (sumN w j))), none, some (.int (nI j)), none, none] [] τ) (n := n) (fun j τ hj hp => by
    refine ⟨wAL τ 41 j (lN 0), ⟨pt_al hp.1 (by decide) (by decide), fun k hk => ?_⟩, ?_⟩
    · rw [AL_l]
      by_cases q : k = j
      · rw [if_pos ⟨rfl, q⟩]
      · rw [if_neg (by omega)]; exact hp.2 k (by omega)
    · show _ = Run false (d + 1) 89 6 [some (.ref 36), some (.long (lN all)), none, some (.int (nI n)), some (.long (lN (sumN w j + w j))), none, some (.int (nI (j + 1))), none, none] [] _
      rw [s89_6, oleF hj (by omega), cond_false, inbT (by omega) (by decide), cond_true, cond_true, nI_clamp (by omega), hp.1.2.2.2.2 40 (by omega), hw j hj, lN_add, nI_add]) 0 σ (Nat.zero_le _) ⟨pt_r, fun k hk => absurd hk (by omega)⟩
  have e0 : Run false (d + 1) 89 0 [some (.ref 36), some (.long (lN all)), none, some (.int (nI n)), none, none, none, none, none] [] σ = Run false (d + 1) 89 6 [some (.ref 36), some (.long (lN all)), none, some (.int (nI n)), some (.long (lN (sumN w n))), none, some (.int (nI n)), none, none] [] τ1 := by
    rw [s89_0]
    exact r1
  have hSn := hsum n (Nat.le_refl _)
  rw [e0, s89_6, oleT (Nat.le_refl _) (by omega), cond_true, lgGt, LLt (by decide) (by omega)]
  by_cases hS : sumN w n = 0
  · refine ⟨τ1, p1, fun k hk => ?_, ?_⟩
    · rw [z1 k hk]
      unfold prtN
      rw [Nbt hS]
      rfl
    · rw [hS]; rfl
  · have hS' : 0 < sumN w n := by omega
    rw [Nlf hS', Bool.not_false, cond_true]
    obtain ⟨f1, f2⟩ := fl_le (w := w) (all := all) hS'
    generalize hSe : sumN w n = S at hS hS' f1 f2 hSn ⊢
    obtain ⟨τ2, ⟨p2, z2⟩, r2⟩ := lpS (P := fun j τ => Pt 41 42 σ τ ∧ ∀ k, k < j → AL τ 41 k = lN (flN w all S k) ∧ AL τ 42 k = lN (all * w k % S)) (R := fun j τ => Run false (d + 1) 89 52 [some (.ref 36), some (.long (lN all)), none, some (.int (nI n)), some (.long (lN S)), none, some (.long (lN (all - sumN (flN w all S) j))), none, some (.int (nI j))] [] τ) (n := n) (fun j τ hj hp => by
      have hm := hmul j
      have hfs := fl_s (w := w) (all := all) (S := S) hj
      have hfj : flN w all S j = all * w j / S := rfl
      have hdm : all * w j / S * S ≤ all * w j := Nat.div_mul_le_self _ _
      refine ⟨wAL (wAL τ 41 j (lN (flN w all S j))) 42 j (lN (all * w j % S)), ⟨pt_al (pt_al hp.1 (by decide) (by decide)) (by decide) (by decide), fun k hk => ?_⟩, ?_⟩
      · by_cases q : k = j
        · subst q
          exact ⟨by rw [AL_n (Or.inl (by decide)), AL_q], AL_q⟩
        · rw [AL_n (Or.inr q), AL_n (Or.inr q), AL_n (Or.inr q), AL_n (Or.inr q)]
          exact hp.2 k (by omega)
      · show _ = Run false (d + 1) 89 52 [some (.ref 36), some (.long (lN all)), none, some (.int (nI n)), some (.long (lN S)), none, some (.long (lN (all - (sumN (flN w all S) j + flN w all S j)))), none, some (.int (nI (j + 1)))] [] _
        rw [s89_52, oleF hj (by omega), cond_false, inbT (by omega) (by decide), cond_true, LLe (by omega) (by decide), Nbf hS, cond_false, cond_true, cond_true, cond_false, cond_true, cond_true, nI_clamp (by omega), hp.1.2.2.2.2 40 (by omega), hw j hj, lN_mul, lN_quo (by omega) hS' (by omega), lN_mul, lN_sub hdm, AL_q, ← hfj, lN_sub (by omega), nI_add, hfj, Nat.sub_sub, show all * w j - all * w j / S * S = all * w j % S by rw [Nat.mul_comm (all * w j / S) S]; exact (Nat.mod_eq_sub_mul_div).symm ▸ rfl]) 0 τ1 (Nat.zero_le _) ⟨p1, fun k hk => absurd hk (by omega)⟩
    obtain ⟨τ3, ⟨p3, z3⟩, r3⟩ := lpS (P := fun j τ => Pt 41 42 σ τ ∧ ∀ k, k < n → AL τ 41 k = (givK (fun k => lN (flN w all S k)) (fun k => lN (all * w k % S)) n j).1 k ∧ AL τ 42 k = (givK (fun k => lN (flN w all S k)) (fun k => lN (all * w k % S)) n j).2 k) (R := fun j τ => Run false (d + 1) 89 117 [some (.ref 36), some (.long (lN all)), none, some (.int (nI n)), some (.long (lN S)), none, some (.long (lN (all - sumN (flN w all S) n))), none, some (.int (nI j))] [] τ) (n := ovN w all S n) (fun j τ hj hp => by
      obtain ⟨n, rfl⟩ := dS (show 1 ≤ n by omega)
      have hj2 : j < all - sumN (flN w all S) (n + 1) := hj
      refine ⟨_, ⟨pt_al (pt_al hp.1 (by decide) (by decide)) (by decide) (by decide), giv_w (o1 := 41) (o2 := 42) (by decide) hp.2⟩, ?_⟩
      show Run false (d + 1) 89 117 _ [] τ = _
      rw [s89_117, oleF (by omega) (by omega), cond_false, lgGe, nI_l (by omega), LLb (by omega) (by omega), Nlf hj2, cond_false, c90 (by omega) (by omega), aft_n, s89_137, nI_add]) 0 τ2 (Nat.zero_le _) ⟨p2, z2⟩
    refine ⟨τ3, p3, fun k hk => ?_, ?_⟩
    · rw [(z3 k hk).1]
      unfold prtN
      rw [hSe, Nbf hS]
      rfl
    · refine r2.trans ?_
      show Run false (d + 1) 89 52 _ [] τ2 = _
      rw [s89_52, oleT (Nat.le_refl _) (by omega), cond_true]
      refine r3.trans ?_
      show Run false (d + 1) 89 117 _ [] τ3 = _
      have hov : ovN w all S n = all - sumN (flN w all S) n := rfl
      rw [s89_117, lgGe, nI_l (by omega), hov, LLb (by omega) (by omega), Nlt (Nat.le_refl _)]
      cases obl (nI n ≤ nI (all - sumN (flN w all S) n)) <;> rfl
/-! the model's -/
theorem c237_in {b1 b4 b6 : Int64} (hn : n < 10) : Run false (d + 1) 237 142 [some (.ref 85), some (.long b1), none, some (.int (nI (n + 1))), some (.long b4), none, some (.long b6), none, some (.int (nI 0)), some (.int (nI 1))] [] σ = Run false (d + 1) 237 129 [some (.ref 85), some (.long b1), none, some (.int (nI (n + 1))), some (.long b4), none, some (.long (b6 - lN 1)), none, some (.int (nI (bsN (AL σ 121) (n + 1)))), some (.int (nI (n + 1)))] [] (wAL (wAL σ 120 (bsN (AL σ 121) (n + 1)) (AL σ 120 (bsN (AL σ 121) (n + 1)) + lN 1)) 121 (bsN (AL σ 121) (n + 1)) (-1)) := by
  have lb := bsN_lt (r := AL σ 121) n
  refine (lpU (f := fun j => Run false (d + 1) 237 142 [some (.ref 85), some (.long b1), none, some (.int (nI (n + 1))), some (.long b4), none, some (.long b6), none, some (.int (nI (bsN (AL σ 121) (j + 1)))), some (.int (nI (j + 1)))] [] σ) (n := n) (fun j hj => ?_) 0 (Nat.zero_le _)).trans ?_
  · have lj := bsN_lt (r := AL σ 121) j
    show _ = Run false (d + 1) 237 142 [some (.ref 85), some (.long b1), none, some (.int (nI (n + 1))), some (.long b4), none, some (.long b6), none, some (.int (nI (bsN (AL σ 121) (j + 1 + 1)))), some (.int (nI (j + 1 + 1)))] [] σ
    rw [bsN_s, s237_142, oleF (by omega) (by omega), cond_false, inbT (by omega) (by decide), cond_true, inbT (by omega) (by decide), cond_true, nI_clamp (by omega), nI_clamp (by omega), nI_add]
    cases obl (lg_cmp (AL σ 121 (j + 1)) (AL σ 121 (bsN (AL σ 121) (j + 1))) ≤ nI 0) <;> rfl
  · show Run false (d + 1) 237 142 _ [] σ = _
    rw [s237_142, oleT (Nat.le_refl _) (by omega), cond_true, inbT (by omega) (by decide), cond_true, cond_true, cond_true, nI_clamp (by omega)]
theorem c237 (hd : 1 ≤ d) (hn : n ≤ 10) (hw : ∀ k, k < n → AL σ 119 k = lN (w k)) (ha : all ≤ 10 ^ 9) (hb : ∀ k, w k ≤ 5 * 10 ^ 8) : ∃ τ, Pt 120 121 σ τ ∧ (∀ k, k < n → AL τ 120 k = prtN w all n k) ∧ Run false d 237 0 [some (.ref 85), some (.long (lN all)), none, some (.int (nI n)), none, none, none, none, none, none] [] σ = some (.inl (none, τ)) := by
  obtain ⟨d, rfl⟩ := dS hd
  have hsum : ∀ j, j ≤ n → sumN w j ≤ 10 * (5 * 10 ^ 8) := fun j hj => Nat.le_trans (sumN_le j (fun i _ => hb i)) (Nat.mul_le_mul (by omega) (Nat.le_refl _))
  have hmul : ∀ k, all * w k ≤ 10 ^ 9 * (5 * 10 ^ 8) := fun k => Nat.mul_le_mul ha (hb k)
  have hSn := hsum n (Nat.le_refl _)
  have e0 : Run false (d + 1) 237 0 [some (.ref 85), some (.long (lN all)), none, some (.int (nI n)), none, none, none, none, none, none] [] σ = Run false (d + 1) 237 33 [some (.ref 85), some (.long (lN all)), none, some (.int (nI n)), some (.long (lN (sumN w n))), none, some (.int (nI 0)), none, none, none] [] σ := by
    rw [s237_0]
    refine (lpU (f := fun j => Run false (d + 1) 237 6 [some (.ref 85), some (.long (lN all)), none, some (.int (nI n)), some (.long (lN (sumN w j))), none, some (.int (nI j)), none, none, none] [] σ) (n := n) (fun j hj => ?_) 0 (Nat.zero_le _)).trans ?_
    · show _ = Run false (d + 1) 237 6 [some (.ref 85), some (.long (lN all)), none, some (.int (nI n)), some (.long (lN (sumN w j + w j))), none, some (.int (nI (j + 1))), none, none, none] [] σ
      rw [s237_6, oleF hj (by omega), cond_false, inbT (by omega) (by decide), cond_true, nI_clamp (by omega), hw j hj, lN_add, nI_add]
    · show Run false (d + 1) 237 6 _ [] σ = _
      rw [s237_6, oleT (Nat.le_refl _) (by omega), cond_true]
  obtain ⟨τ1, ⟨p1, z1⟩, r1⟩ := lpS (P := fun j τ => Pt 120 121 σ τ ∧ ∀ k, k < j → AL τ 120 k = lN 0) (R := fun j τ => Run false (d + 1) 237 33 [some (.ref 85), some (.long (lN all)), none, some (.int (nI n)), some (.long (lN (sumN w n))), none, some (.int (nI j)), none, none, none] [] τ) (n := n) (fun j τ hj hp => by
    refine ⟨wAL τ 120 j (lN 0), ⟨pt_al hp.1 (by decide) (by decide), fun k hk => ?_⟩, ?_⟩
    · rw [AL_l]
      by_cases q : k = j
      · rw [if_pos ⟨rfl, q⟩]
      · rw [if_neg (by omega)]; exact hp.2 k (by omega)
    · show Run false (d + 1) 237 33 _ [] τ = _
      rw [s237_33, oleF hj (by omega), cond_false, inbT (by omega) (by decide), cond_true, nI_clamp (by omega), nI_add]) 0 σ (Nat.zero_le _) ⟨pt_r, fun k hk => absurd hk (by omega)⟩
  have e1 : Run false (d + 1) 237 0 [some (.ref 85), some (.long (lN all)), none, some (.int (nI n)), none, none, none, none, none, none] [] σ = Run false (d + 1) 237 33 [some (.ref 85), some (.long (lN all)), none, some (.int (nI n)), some (.long (lN (sumN w n))), none, some (.int (nI n)), none, none, none] [] τ1 := e0.trans r1
  rw [e1, s237_33, oleT (Nat.le_refl _) (by omega), cond_true, lgEq, LLe (by omega) (by decide)]
  by_cases hS : sumN w n = 0
  · refine ⟨τ1, p1, fun k hk => ?_, ?_⟩
    · rw [z1 k hk]
      unfold prtN
      rw [Nbt hS]
      rfl
    · rw [hS]; rfl
  · have hS' : 0 < sumN w n := by omega
    rw [Nbf hS, cond_false]
    obtain ⟨f1, f2⟩ := fl_le (w := w) (all := all) hS'
    generalize hSe : sumN w n = S at hS hS' f1 f2 hSn ⊢
    obtain ⟨τ2, ⟨p2, z2⟩, r2⟩ := lpS (P := fun j τ => Pt 120 121 σ τ ∧ ∀ k, k < j → AL τ 120 k = lN (flN w all S k) ∧ AL τ 121 k = lN (all * w k % S)) (R := fun j τ => Run false (d + 1) 237 67 [some (.ref 85), some (.long (lN all)), none, some (.int (nI n)), some (.long (lN S)), none, some (.long (lN (all - sumN (flN w all S) j))), none, some (.int (nI j)), none] [] τ) (n := n) (fun j τ hj hp => by
      have hm := hmul j
      have hfs := fl_s (w := w) (all := all) (S := S) hj
      have hfj : flN w all S j = all * w j / S := rfl
      have hdm : all * w j / S * S ≤ all * w j := Nat.div_mul_le_self _ _
      refine ⟨wAL (wAL τ 120 j (lN (flN w all S j))) 121 j (lN (all * w j % S)), ⟨pt_al (pt_al hp.1 (by decide) (by decide)) (by decide) (by decide), fun k hk => ?_⟩, ?_⟩
      · by_cases q : k = j
        · subst q
          exact ⟨by rw [AL_n (Or.inl (by decide)), AL_q], AL_q⟩
        · rw [AL_n (Or.inr q), AL_n (Or.inr q), AL_n (Or.inr q), AL_n (Or.inr q)]
          exact hp.2 k (by omega)
      · show _ = Run false (d + 1) 237 67 [some (.ref 85), some (.long (lN all)), none, some (.int (nI n)), some (.long (lN S)), none, some (.long (lN (all - (sumN (flN w all S) j + flN w all S j)))), none, some (.int (nI (j + 1))), none] [] _
        rw [s237_67, oleF hj (by omega), cond_false, inbT (by omega) (by decide), cond_true, LLe (by omega) (by decide), Nbf hS, cond_false, cond_true, cond_true, cond_false, cond_true, cond_true, nI_clamp (by omega), hp.1.2.2.2.2 119 (by omega), hw j hj, lN_mul, lN_quo (by omega) hS' (by omega), lN_mul, lN_sub hdm, AL_q, ← hfj, lN_sub (by omega), nI_add, hfj, Nat.sub_sub, show all * w j - all * w j / S * S = all * w j % S by rw [Nat.mul_comm (all * w j / S) S]; exact (Nat.mod_eq_sub_mul_div).symm ▸ rfl]) 0 τ1 (Nat.zero_le _) ⟨p1, fun k hk => absurd hk (by omega)⟩
    have lp3 : ∀ m j (a8 : Int32) (z9 : Option Value) τ, j + m = ovN w all S n → Pt 120 121 σ τ → (∀ k, k < n → AL τ 120 k = (givK (fun k => lN (flN w all S k)) (fun k => lN (all * w k % S)) n j).1 k ∧ AL τ 121 k = (givK (fun k => lN (flN w all S k)) (fun k => lN (all * w k % S)) n j).2 k) → ∃ τ', Pt 120 121 σ τ' ∧ (∀ k, k < n → AL τ' 120 k = (givK (fun k => lN (flN w all S k)) (fun k => lN (all * w k % S)) n (ovN w all S n)).1 k) ∧ Run false (d + 1) 237 129 [some (.ref 85), some (.long (lN all)), none, some (.int (nI n)), some (.long (lN S)), none, some (.long (lN m)), none, some (.int a8), z9] [] τ = some (.inl (none, τ')) := by
      intro m
      induction m with
      | zero =>
        intro j a8 z9 τ hj hp hz
        have : j = ovN w all S n := by omega
        subst this
        refine ⟨τ, hp, fun k hk => (hz k hk).1, ?_⟩
        rw [s237_129, lgLe, LLb (by decide) (by decide)]
        rfl
      | succ m ih =>
        intro j a8 z9 τ hj hp hz
        obtain ⟨n, rfl⟩ := dS (show 1 ≤ n by omega)
        obtain ⟨τ', q1, q2, q3⟩ := ih (j + 1) (nI (bsN (AL τ 121) (n + 1))) (some (.int (nI (n + 1)))) _ (by omega) (pt_al (pt_al hp (by decide) (by decide)) (by decide) (by decide)) (giv_w (o1 := 120) (o2 := 121) (by decide) hz)
        refine ⟨τ', q1, q2, ?_⟩
        rw [s237_129, lgLe, LLb (by omega) (by decide), Nlf (by omega), cond_false, c237_in (by omega), lN_sub (by omega)]
        exact q3
    obtain ⟨τ3, p3, z3, r3⟩ := lp3 (ovN w all S n) 0 (nI n) none τ2 (by omega) p2 z2
    refine ⟨τ3, p3, fun k hk => ?_, ?_⟩
    · rw [z3 k hk]
      unfold prtN
      rw [hSe, Nbf hS]
      rfl
    · refine r2.trans ?_
      show Run false (d + 1) 237 67 _ [] τ2 = _
      rw [s237_67, oleT (Nat.le_refl _) (by omega), cond_true]
      exact r3
end PA
