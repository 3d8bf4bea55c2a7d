/-! THE PURE PROOFS: a maker's fee -/
theorem sumN_ge {f : Nat → Nat} : ∀ n m, m < n → f m ≤ sumN f n := by
  intro n
  induction n with
  | zero => intro m h; omega
  | succ n ih =>
    intro m h
    show f m ≤ sumN f n + f n
    rcases Nat.lt_or_ge m n with q | q
    · have := ih m q; omega
    · rw [show m = n by omega]; omega
/-- grams of a maker's packets as made -/
noncomputable def gsI (σ : PS) (m s : Nat) : Nat → Int32
  | 0 => nI 0
  | p + 1 => bif obl (AI σ 97 p = nI m) then gsI σ m s p + grM σ p (AI σ 99 p).toNatClampNeg s else gsI σ m s p
/-- the most layers of them -/
noncomputable def lyI (σ : PS) (m : Nat) : Nat → Nat
  | 0 => 0
  | p + 1 => bif obl (AI σ 97 p = nI m) then max (lyI σ m p) (layM σ p (AI σ 99 p).toNatClampNeg) else lyI σ m p
theorem gsI_c {σ τ : PS} {m s : Nat} (h97 : AI τ 97 = AI σ 97) (h98 : AI τ 98 = AI σ 98) (h99 : AI τ 99 = AI σ 99) (h100 : AI τ 100 = AI σ 100) : ∀ n, gsI τ m s n = gsI σ m s n := by
  intro n
  induction n with
  | zero => rfl
  | succ n ih => unfold gsI grM; rw [ih, h97, h98, h99, h100]
theorem lyI_c {σ τ : PS} {m : Nat} (h97 : AI τ 97 = AI σ 97) (h98 : AI τ 98 = AI σ 98) (h99 : AI τ 99 = AI σ 99) (h100 : AI τ 100 = AI σ 100) : ∀ n, lyI τ m n = lyI σ m n := by
  intro n
  induction n with
  | zero => rfl
  | succ n ih => unfold lyI layM grM; rw [ih, h97, h98, h99, h100]
theorem layM_0 {σ : PS} {p k : Nat} (h : AI σ 98 p = nI 0) : layM σ p k = 0 := by
  have : ∀ n, layN (fun s => grM σ p k s) n = 0 := by
    intro n
    induction n with
    | zero => rfl
    | succ n ih =>
      show (bif obl (grM σ p k n ≤ nI 0) then layN (fun s => grM σ p k s) n else layN (fun s => grM σ p k s) n + 1) = 0
      unfold grM at ih ⊢
      rw [obl_t h] at ih ⊢
      rw [cond_true, obl_t (Int32.le_refl _), cond_true]; exact ih
  exact this 5
theorem layM_le {σ : PS} {p k : Nat} : layM σ p k ≤ 5 := layN_le 5
theorem lyI_le {σ : PS} {m : Nat} : ∀ n, lyI σ m n ≤ 5 := by
  intro n
  induction n with
  | zero => exact Nat.zero_le _
  | succ n ih =>
    unfold lyI
    have := @layM_le σ n (AI σ 99 n).toNatClampNeg
    cases obl (AI σ 97 n = nI m)
    · exact ih
    · show max _ _ ≤ 5; omega
section FB
variable {d y M m : Nat} {LS : List LAW} {X : Option (List CLS)} {σ : PS} {dec : Nat → Nat → Nat} {sm : Nat → Prop} {inn : Nat → Int32}
theorem c85 {s : Nat} {τ : PS} (hd : 2 ≤ d) (hs : s < 5) (hM : M ≤ 10) (hb : ∀ m s, dec m s ≤ 10000000) (hV : VW τ M dec sm inn) : Run false d 85 0 [some (.ref 36), some (.int (nI s)), none, none] [] τ = some (.inl (some (.int (nI (sumN (fun o => dec o s) M))), τ)) := by
  obtain ⟨d, rfl⟩ := dS (show 1 ≤ d by omega)
  rw [s85_0]
  refine (lpU (f := fun j => Run false (d + 1) 85 4 [some (.ref 36), some (.int (nI s)), some (.int (nI (sumN (fun o => dec o s) j))), some (.int (nI j))] [] τ) (n := M) (fun j hj => ?_) 0 (Nat.zero_le _)).trans ?_
  · rw [s85_4, hV.1, oleF hj (by omega), cond_false, c83 (by omega) (by omega) hs, aft_v, s85_19, (hV.2 j hj).1 s hs, nI_add, nI_add]
    rfl
  · rw [s85_4, hV.1, oleT (Nat.le_refl _) (by omega), cond_true]
/-- a fee on its way -/
def FE (σ υ : PS) (LS : List LAW) (y M m : Nat) (dec : Nat → Nat → Nat) (sm : Nat → Prop) (inn : Nat → Int32) : Prop := Off σ υ ∧ VW υ M dec sm inn ∧ FI υ 43 0 = nI y ∧ FI υ 43 1 = nI (numV (clL LS 5 0 y) 0) ∧ ∀ s, s < 5 → AI υ 44 s = ixV (lawIx LS 0 s y LS.length) ∧ AI υ 46 s = nI (sumN (fun o => dec o s) M - dec m s)
theorem c57 {τ : PS} (hd : 3 ≤ d) (hy : y ≤ 40) (hM : M ≤ 10) (hm : m < M) (hb : ∀ m s, dec m s ≤ 10000000) (hC : LC LS τ) (ho : Off σ τ) (hV : VW τ M dec sm inn) : ∃ υ, FE σ υ LS y M m dec sm inn ∧ Run false d 57 0 [some (.ref 0), some (.int (nI m)), some (.int (nI y)), none] [] τ = some (.inl (none, υ)) := by
  obtain ⟨d, rfl⟩ := dS (show 1 ≤ d by omega)
  have hC0 : LC LS (wFI τ 43 0 (nI y)) := LC_off (off_fi off_r rfl) hC
  obtain ⟨υ, ⟨p1, p2, p3, p4, p5⟩, o2⟩ := lpS (P := fun j υ => Off τ υ ∧ VW υ M dec sm inn ∧ FI υ 43 0 = nI y ∧ FI υ 43 1 = nI (numV (clL LS 5 0 y) 0) ∧ ∀ s, s < j → AI υ 44 s = ixV (lawIx LS 0 s y LS.length) ∧ AI υ 46 s = nI (sumN (fun o => dec o s) M - dec m s)) (R := fun j υ => Run false (d + 1) 57 30 [some (.ref 0), some (.int (nI m)), some (.int (nI y)), some (.int (nI j))] [] υ) (n := 5) (fun j υ hj hp => by
    obtain ⟨q1, q2, q3, q4, q5⟩ := hp
    have hV1 : VW (wAI υ 44 j (ixV (lawIx LS 0 j y LS.length))) M dec sm inn := q2
    have hle := sumN_ge (f := fun o => dec o j) M m hm
    have k0 := c99_fee (d := d) (s := j) (y := y) (by omega) (by omega) hy (LC_off q1 hC)
    have k1 := c85 (d := d) (s := j) (by omega) hj hM hb hV1
    have k2 := c83 (d := d) (m := m) (s := j) (σ := wAI υ 44 j (ixV (lawIx LS 0 j y LS.length))) (by omega) (by omega) hj
    rw [(hV1.2 m hm).1 j hj] at k2
    refine ⟨wAI (wAI υ 44 j (ixV (lawIx LS 0 j y LS.length))) 46 j (nI (sumN (fun o => dec o j) M - dec m j)), ⟨off_ai (off_ai q1 rfl) rfl, q2, q3, q4, fun s hs => ?_⟩, ?_⟩
    · rcases Nat.lt_or_ge s j with w | w
      · rw [AI_n (Or.inl (by decide)), AI_n (Or.inr (by omega)), AI_n (Or.inr (by omega))]; exact q5 s w
      · rw [show s = j by omega, AI_n (Or.inl (by decide)), AI_q, AI_q]; exact ⟨rfl, rfl⟩
    · show Run false (d + 1) 57 30 _ [] υ = _
      rw [s57_30, oleF hj (by decide), cond_false, k0, aft_v, s57_55, inbT hj (by decide), cond_true, nI_clamp (by omega), k1, aft_v, s57_72, k2, aft_v, s57_81, inbT hj (by decide), cond_true, nI_clamp (by omega), nI_sub hle, nI_add]) 0 (wFI (wFI τ 43 0 (nI y)) 43 1 (nI (numV (clL LS 5 0 y) 0))) (Nat.zero_le _) ⟨off_fi (off_fi off_r rfl) rfl, hV, by rw [FI_n (Or.inr (by decide)), FI_q], FI_q, fun s hs => by omega⟩
  refine ⟨υ, ⟨off_t ho p1, p2, p3, p4, p5⟩, ?_⟩
  rw [s57_0, c100_least (by omega) hy hC0, aft_v, s57_25]
  refine o2.trans ?_
  show Run false (d + 1) 57 30 _ [] υ = _
  rw [s57_30, oleT (Nat.le_refl _) (by decide), cond_true]
/-- grams and layers so far -/
def FG (σ υ : PS) (LS : List LAW) (y M m : Nat) (dec : Nat → Nat → Nat) (sm : Nat → Prop) (inn : Nat → Int32) (g : Nat → Int32) (la : Nat) : Prop := FE σ υ LS y M m dec sm inn ∧ FI υ 43 2 = nI la ∧ ∀ s, s < 5 → AI υ 45 s = nI (dec m s) ∧ AI υ 47 s = g s
theorem FE_47 {υ : PS} {j : Nat} {v : Int32} (h : FE σ υ LS y M m dec sm inn) : FE σ (wAI υ 47 j v) LS y M m dec sm inn := ⟨off_ai h.1 rfl, h.2.1, h.2.2.1, h.2.2.2.1, h.2.2.2.2⟩
theorem FE_45 {υ : PS} {j : Nat} {v : Int32} (h : FE σ υ LS y M m dec sm inn) : FE σ (wAI υ 45 j v) LS y M m dec sm inn := ⟨off_ai h.1 rfl, h.2.1, h.2.2.1, h.2.2.2.1, h.2.2.2.2⟩
theorem FE_l {υ : PS} {v : Int32} (h : FE σ υ LS y M m dec sm inn) : FE σ (wFI υ 43 2 v) LS y M m dec sm inn := ⟨off_fi h.1 rfl, h.2.1, by rw [FI_n (Or.inr (by decide))]; exact h.2.2.1, by rw [FI_n (Or.inr (by decide))]; exact h.2.2.2.1, h.2.2.2.2⟩
theorem c58 {p la : Nat} {g : Nat → Int32} {υ : PS} (hd : 4 ≤ d) (hP : IP σ) (hp : p < 20) (hl : la ≤ 5) (h : FG σ υ LS y M m dec sm inn g la) : ∃ υ', FG σ υ' LS y M m dec sm inn (fun s => g s + grM σ p (AI σ 99 p).toNatClampNeg s) (max la (layM σ p (AI σ 99 p).toNatClampNeg)) ∧ Run false d 58 0 [some (.ref 0), some (.int (nI p)), none, none] [] υ = some (.inl (none, υ')) := by
  obtain ⟨d, rfl⟩ := dS (show 1 ≤ d by omega)
  have hPu := IP_off h.1.1 hP
  rw [s58_0]
  rcases c127 (d := d) (by omega) hPu hp with ⟨g1, g2, g3⟩ | ⟨k, g0, g1, g2, g3⟩
  · rw [g3, aft_v, s58_8, w0m, cond_false]
    rw [offA h.1.1 98 rfl] at g1
    have e0 : ∀ s, g s + grM σ p (AI σ 99 p).toNatClampNeg s = g s := by
      intro s
      unfold grM
      rw [obl_t g1, cond_true, nI_0, Int32.add_zero]
    refine ⟨υ, ?_, rfl⟩
    rw [layM_0 g1, Nat.max_eq_left (Nat.zero_le _)]
    refine ⟨h.1, h.2.1, fun s hs => ⟨(h.2.2 s hs).1, ?_⟩⟩
    exact (h.2.2 s hs).2.trans (e0 s).symm
  · rw [g3, aft_v, s58_8, oleT (Nat.zero_le _) (by omega), cond_true]
    rw [offA h.1.1 98 rfl] at g2
    rw [offA h.1.1 99 rfl] at g1
    have ek : (AI σ 99 p).toNatClampNeg = k := by rw [g1, nI_clamp (by omega)]
    rw [ek]
    have hg : 5 * p + k < 100 := by omega
    have eL := layM_G (k := k) g2
    obtain ⟨υ', ⟨q1, q2, q3, q4, q5⟩, o2⟩ := lpS (P := fun j υ' => FE σ υ' LS y M m dec sm inn ∧ FI υ' 43 2 = nI la ∧ (∀ s, s < 5 → AI υ' 45 s = nI (dec m s)) ∧ (∀ s, s < j → AI υ' 47 s = g s + grM σ p k s) ∧ ∀ s, j ≤ s → s < 5 → AI υ' 47 s = g s) (R := fun j υ' => Run false (d + 1) 58 16 [some (.ref 0), some (.int (nI p)), some (.int (nI (5 * p + k))), some (.int (nI j))] [] υ') (n := 5) (fun j υ' hj hp' => by
      obtain ⟨q1, q2, q3, q4, q5⟩ := hp'
      refine ⟨wAI υ' 47 j (g j + grM σ p k j), ⟨FE_47 q1, q2, q3, fun s hs => ?_, fun s hs hs5 => ?_⟩, ?_⟩
      · rcases Nat.lt_or_ge s j with w | w
        · rw [AI_n (Or.inr (by omega))]; exact q4 s w
        · rw [show s = j by omega, AI_q]
      · rw [AI_n (Or.inr (by omega))]; exact q5 s (by omega) hs5
      · have eg : AI υ' 100 (5 * (5 * p + k) + j) = grM σ p k j := by
          rw [offA q1.1 100 rfl]; unfold grM; rw [obl_f g2]; rfl
        show Run false (d + 1) 58 16 _ [] υ' = _
        rw [s58_16, oleF hj (by decide), cond_false, inbT hj (by decide), cond_true, nI_clamp (by omega), q5 j (Nat.le_refl _) hj, c125 (by omega) (IP_off q1.1 hP) hg (by omega), aft_v, s58_40, inbT hj (by decide), cond_true, nI_clamp (by omega), nI_add, eg]) 0 υ (Nat.zero_le _) ⟨h.1, h.2.1, fun s hs => (h.2.2 s hs).1, fun s hs => by omega, fun s _ hs => (h.2.2 s hs).2⟩
    refine ⟨wFI υ' 43 2 (nI (max la (layM σ p k))), ⟨FE_l q1, FI_q, fun s hs => ⟨q3 s hs, q4 s hs⟩⟩, ?_⟩
    refine o2.trans ?_
    show Run false (d + 1) 58 16 _ [] υ' = _
    have eG : layG υ' (5 * p + k) = layG σ (5 * p + k) := by unfold layG; rw [offA q1.1 100 rfl]
    have l5 := @layM_le σ p k
    rw [s58_16, oleT (Nat.le_refl _) (by decide), cond_true, c126 (by omega) (IP_off q1.1 hP) hg, aft_v, s58_67, q2, eG, ← eL]
    by_cases w : la < layM σ p k
    · rw [if_pos (nI_lt w (by omega)), Nat.max_eq_right (by omega)]
    · rw [if_neg (nI_nlt (by omega) (by omega)), Nat.max_eq_left (by omega)]
end FB
