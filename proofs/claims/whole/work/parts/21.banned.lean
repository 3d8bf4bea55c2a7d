/-! THE PURE PROOFS: BANNED, on both sides -/
theorem IP_off {σ τ : PS} (h : Off σ τ) (hP : IP σ) : IP τ := by
  unfold IP at hP ⊢
  rw [offF h 85 30 rfl, offF h 17 0 rfl, offA h 18 rfl, offA h 19 rfl, offA h 20 rfl, offA h 21 rfl, offA h 22 rfl, offA h 23 rfl, offA h 24 rfl, offA h 25 rfl, offA h 97 rfl, offA h 98 rfl, offA h 99 rfl, offA h 100 rfl, offA h 101 rfl, offA h 102 rfl, offA h 103 rfl, offA h 104 rfl]; exact hP
section BD
variable {d s y : Nat} {LS : List LAW} {X : Option (List CLS)} {σ : PS}
/-- a make, by its place g, is banned in y -/
def bnG (σ : PS) (LS : List LAW) (y g i : Nat) : Prop := ∃ s, i ≤ s ∧ s < 5 ∧ ¬ AI σ 100 (5 * g + s) ≤ nI 0 ∧ lawB (nI y, nI 0, nI 0, AI σ 100 (5 * g + s), nI (layG σ g)) s LS y 0
theorem bnG_c {g i : Nat} (h : i < 5) : bnG σ LS y g i ↔ ((¬ AI σ 100 (5 * g + i) ≤ nI 0 ∧ lawB (nI y, nI 0, nI 0, AI σ 100 (5 * g + i), nI (layG σ g)) i LS y 0) ∨ bnG σ LS y g (i + 1)) := by
  constructor
  · rintro ⟨j, h1, h2, h3⟩
    by_cases q : j = i
    · subst q; exact Or.inl h3
    · exact Or.inr ⟨j, by omega, h2, h3⟩
  · rintro (h1 | ⟨j, h1, h2, h3⟩)
    · exact ⟨i, Nat.le_refl _, h, h1⟩
    · exact ⟨j, by omega, h2, h3⟩
theorem c59 {g : Nat} (hd : 4 ≤ d) (hI : IP σ) (hg : g < 100) (hy : y ≤ 40) (h : LC LS σ) : ∃ τ, Stk σ τ ∧ Run false d 59 0 [some (.ref 0), some (.int (nI g)), some (.int (nI y)), none, none, none] [] σ = some (.inl (some (.int (b1 (bnG σ LS y g 0))), τ)) := by
  obtain ⟨d, rfl⟩ : ∃ z, d = z + 4 := ⟨d - 4, by omega⟩
  have key : ∀ n i τ z5, 5 - i = n → i ≤ 5 → Stk σ τ → ∃ τ', Stk σ τ' ∧ Run false (d + 4) 59 12 [some (.ref 0), some (.int (nI g)), some (.int (nI y)), some (.int (nI (layG σ g))), some (.int (nI i)), z5] [] τ = some (.inl (some (.int (b1 (bnG σ LS y g i))), τ')) := by
    intro n
    induction n with
    | zero =>
      intro i τ z5 e1 e2 ho
      refine ⟨τ, ho, ?_⟩
      rw [s59_12, oleT (show 5 ≤ i by omega) (by omega), cond_true, is01_0, cond_true, b1_f (fun ⟨j, q1, q2, _⟩ => by omega)]
    | succ n ih =>
      intro i τ z5 e1 e2 ho
      have hi : i < 5 := by omega
      have e100 : AI τ 100 (5 * g + i) = AI σ 100 (5 * g + i) := by rw [stkA ho 100 rfl]
      rw [s59_12, oleF (show i < 5 by omega) (by decide), cond_false, c125 (by omega) (IP_off (stk_off ho) hI) hg (by omega), aft_v, s59_28, e100]
      cases hz : obl (AI σ 100 (5 * g + i) ≤ nI 0) with
      | true =>
        obtain ⟨τ', o1, o2⟩ := ih (i + 1) τ (some (.int (AI σ 100 (5 * g + i)))) (by omega) hi ho
        refine ⟨τ', o1, ?_⟩
        rw [cond_true, nI_add, o2, b1_c (show bnG σ LS y g (i + 1) ↔ bnG σ LS y g i from ?_)]
        rw [bnG_c hi]
        exact ⟨Or.inr, fun z => z.elim (fun q => absurd ((obl_iff _).mp hz) q.1) id⟩
      | false =>
        have hz' : ¬ AI σ 100 (5 * g + i) ≤ nI 0 := fun q => by rw [obl_t q] at hz; cases hz
        obtain ⟨τ1, p1, p2⟩ := c101 (d := d + 3) (s := i) (y := y) (g := AI σ 100 (5 * g + i)) (la := nI (layG σ g)) (by omega) (by omega) hy (LC_off (stk_off ho) h)
        rw [cond_false, p2, aft_v, s59_48, b1_0]
        by_cases q : lawB (nI y, nI 0, nI 0, AI σ 100 (5 * g + i), nI (layG σ g)) i LS y 0
        · rw [obl_t q]
          refine ⟨τ1, stk_t ho p1, ?_⟩
          show (bif is01 (nI 1) then _ else _) = _
          rw [is01_1, cond_true, b1_t ((bnG_c hi).mpr (Or.inl ⟨hz', q⟩))]
        · rw [obl_f q]
          obtain ⟨τ', o1, o2⟩ := ih (i + 1) τ1 (some (.int (AI σ 100 (5 * g + i)))) (by omega) hi (stk_t ho p1)
          refine ⟨τ', o1, ?_⟩
          show Run _ _ _ _ _ _ _ = _
          rw [nI_add, o2, b1_c (show bnG σ LS y g (i + 1) ↔ bnG σ LS y g i from ?_)]
          rw [bnG_c hi]
          exact ⟨Or.inr, fun z => z.elim (fun w => absurd w.2 q) id⟩
  rw [s59_0, c126 (by omega) hI hg, aft_v, s59_8]
  exact key _ 0 σ none rfl (Nat.zero_le _) stk_r
/-- the model's: clause by clause -/
def mlB (σ : PS) (p k y : Nat) (c : CLS) : Prop := ¬ grM σ p k c.2.1 = nI 0 ∧ clB (nI y, nI 0, nI 0, grM σ p k c.2.1, nI (layM σ p k)) c.2.1 c
def mrB (σ : PS) (p k y : Nat) (cs : List CLS) (i : Nat) : Prop := ∃ j, i ≤ j ∧ j < cs.length ∧ mlB σ p k y (cs.getD j (0, 0, 0, []))
def mwB (σ : PS) (LS : List LAW) (p k y r : Nat) : Prop := ∃ q, r ≤ q ∧ q < LS.length ∧ (LS.getD q (0, [])).1 ≤ y ∧ mrB σ p k y (LS.getD q (0, [])).2 0
theorem mrB_c {p k i : Nat} {cs : List CLS} (h : i < cs.length) : mrB σ p k y cs i ↔ (mlB σ p k y (cs.getD i (0, 0, 0, [])) ∨ mrB σ p k y cs (i + 1)) := by
  constructor
  · rintro ⟨j, h1, h2, h3⟩
    by_cases q : j = i
    · subst q; exact Or.inl h3
    · exact Or.inr ⟨j, by omega, h2, h3⟩
  · rintro (h1 | ⟨j, h1, h2, h3⟩)
    · exact ⟨i, Nat.le_refl _, h, h1⟩
    · exact ⟨j, by omega, h2, h3⟩
theorem mwB_c {p k r : Nat} (h : r < LS.length) : mwB σ LS p k y r ↔ (((LS.getD r (0, [])).1 ≤ y ∧ mrB σ p k y (LS.getD r (0, [])).2 0) ∨ mwB σ LS p k y (r + 1)) := by
  constructor
  · rintro ⟨j, h1, h2, h3⟩
    by_cases q : j = r
    · subst q; exact Or.inl h3
    · exact Or.inr ⟨j, by omega, h2, h3⟩
  · rintro (h1 | ⟨j, h1, h2, h3⟩)
    · exact ⟨r, Nat.le_refl _, h, h1⟩
    · exact ⟨j, by omega, h2, h3⟩
theorem rowM_off {τ : PS} {r : Nat} {cs : List CLS} (h : Off σ τ) (g : rowM σ r cs) : rowM τ r cs := by
  unfold rowM clM at g ⊢
  rw [offA h 88 rfl, offA h 89 rfl, offA h 90 rfl, offA h 91 rfl, offA h 92 rfl, offA h 93 rfl, offA h 94 rfl, offA h 95 rfl]
  exact g
theorem grM_off {τ : PS} {p k : Nat} (h : Off σ τ) : grM τ p k s = grM σ p k s := by unfold grM; rw [offA h 98 rfl, offA h 100 rfl]
theorem layM_off {τ : PS} {p k : Nat} (h : Off σ τ) : layM τ p k = layM σ p k := by
  unfold layM
  congr 1
  funext s
  exact grM_off h
set_option maxHeartbeats 1000000 in
theorem c228_in {p k r : Nat} {cs : List CLS} {Q : Prop} {yr : Nat} (hp : p < 20) (hk : k < 5) (hy : y ≤ 40) (hyr : yr ≤ 40) (hr : r < 11) (hR : rowM σ r cs) (hF : AI σ 87 r = nI yr) (hle : yr ≤ y) (hW : ∀ i, i < cs.length → clW (cs.getD i (0, 0, 0, [])))
    (next : ∀ τ z5, Stk σ τ → ∃ τ', Stk σ τ' ∧ Run false (d + 3) 228 3 [some (.ref 85), some (.int (nI p)), some (.int (nI k)), some (.int (nI y)), some (.int (nI (r + 1))), z5] [] τ = some (.inl (some (.int (b1 Q)), τ'))) : ∀ n i τ, cs.length - i = n → i ≤ cs.length → Stk σ τ → ∃ τ', Stk σ τ' ∧ Run false (d + 3) 228 19 [some (.ref 85), some (.int (nI p)), some (.int (nI k)), some (.int (nI y)), some (.int (nI r)), some (.int (nI (16 * r + i)))] [] τ = some (.inl (some (.int (b1 (mrB σ p k y cs i ∨ Q))), τ')) := by
  have h16 := hR.1
  intro n
  induction n with
  | zero =>
    intro i τ e1 e2 ho
    have : i = cs.length := by omega
    subst this
    obtain ⟨τ', o1, o2⟩ := next τ (some (.int (nI (16 * r + cs.length)))) ho
    refine ⟨τ', o1, ?_⟩
    rw [s228_19, inbT hr (by decide), cond_true, nI_clamp (by omega), (rowM_off (stk_off ho) hR).2.1, nI_mul, nI_add, oleT (Nat.le_refl _) (by omega), cond_true, nI_add, o2]
    rw [b1_c (show (mrB σ p k y cs cs.length ∨ Q) ↔ Q from ⟨fun z => z.resolve_left (fun ⟨j, q1, q2, _⟩ => by omega), Or.inr⟩)]
  | succ n ih =>
    intro i τ e1 e2 ho
    have hi : i < cs.length := by omega
    have hc := (rowM_off (stk_off ho) hR).2.2 i hi
    have hw := hW i hi
    generalize hcl : cs.getD i (0, 0, 0, []) = c at hc hw
    have go : ∀ τ1, Stk σ τ1 → ¬ mlB σ p k y c → ∃ τ', Stk σ τ' ∧ Run false (d + 3) 228 19 [some (.ref 85), some (.int (nI p)), some (.int (nI k)), some (.int (nI y)), some (.int (nI r)), some (.int (nI (16 * r + i) + nI 1))] [] τ1 = some (.inl (some (.int (b1 (mrB σ p k y cs i ∨ Q))), τ')) := by
      intro τ1 o1 hn
      obtain ⟨τ', o2, o3⟩ := ih (i + 1) τ1 (by omega) hi o1
      refine ⟨τ', o2, ?_⟩
      rw [nI_add, show 16 * r + i + 1 = 16 * r + (i + 1) by omega, o3, b1_c (show (mrB σ p k y cs (i + 1) ∨ Q) ↔ (mrB σ p k y cs i ∨ Q) from ?_)]
      rw [mrB_c hi, hcl]
      exact ⟨fun z => z.elim (fun q => Or.inl (Or.inr q)) Or.inr, fun z => z.elim (fun q => q.elim (fun q => absurd q hn) Or.inl) Or.inr⟩
    have yes : mlB σ p k y c → b1 (mrB σ p k y cs i ∨ Q) = nI 1 := fun q => b1_t (Or.inl ((mrB_c hi).mpr (Or.inl (by rw [hcl]; exact q))))
    have hw4 := hw.2.1
    have hw7 := hw.1
    have eF : AI τ 87 r = nI yr := by rw [stkA ho 87 rfl, hF]
    rw [s228_19]
    simp (disch := omega) only [inbT, cond_true, nI_clamp, (rowM_off (stk_off ho) hR).2.1, nI_mul, nI_add, oleF, cond_false, eF, oltF]
    rw [hc.1, Oeb (by omega) (by omega)]
    by_cases k4 : c.1 = 4
    · have e90 : AI τ 90 (16 * r + i) = nI c.2.1 := by rw [hc.2.1, if_pos (by omega)]
      rw [Nbt k4, cond_true, e90, c213 (by omega) hp hk hw4, aft_v, s228_72, grM_off (stk_off ho)]
      by_cases kg : grM σ p k c.2.1 = nI 0
      · rw [obl_t kg, cond_true]
        exact go τ ho (fun z => z.1 kg)
      · rw [obl_f kg, cond_false, inbT (show 16 * r + i < 176 by omega) (by decide), cond_true, nI_clamp (by omega), e90]
        have oA : Stk σ (wFI (wFI (wFI τ 85 23 (nI y)) 85 24 (nI 0)) 85 25 (nI 0)) := stk_fi (stk_fi (stk_fi ho rfl) rfl) rfl
        rw [c213 (by omega) hp hk hw4, aft_v, s228_107, grM_off (stk_off oA)]
        have oB : Stk σ (wFI (wFI (wFI (wFI τ 85 23 (nI y)) 85 24 (nI 0)) 85 25 (nI 0)) 85 26 (grM σ p k c.2.1)) := stk_fi oA rfl
        rw [c223 (by omega) hp hk, aft_v, s228_117, layM_off (stk_off oB)]
        have oC : Stk σ (wFI (wFI (wFI (wFI (wFI τ 85 23 (nI y)) 85 24 (nI 0)) 85 25 (nI 0)) 85 26 (grM σ p k c.2.1)) 85 27 (nI (layM σ p k))) := stk_fi oB rfl
        have hcC := (rowM_off (stk_off oC) hR).2.2 i hi
        rw [hcl] at hcC
        have ecr : (16 * r + i) / 16 = r := by omega
        by_cases ke : c.2.2.2 = []
        · rw [c203_no (by omega) (show 16 * r + i < 176 by omega) ecr hcC ke, aft_v, s228_126, obl_t rfl, cond_true, is01_1, cond_true]
          exact ⟨_, oC, by rw [yes ⟨kg, k4, rfl, Or.inl ke⟩]⟩
        · have hty : tyA [] c.2.2.2 = some [true] := (hw.2.2.2.2.2.2.2 k4).resolve_left ke
          obtain ⟨τ1, o1, o2⟩ := c203 (d := d + 2) (F := (nI y, nI 0, nI 0, grM σ p k c.2.1, nI (layM σ p k))) (by omega) (show 16 * r + i < 176 by omega) ecr hcC hty ⟨rfl, rfl, rfl, rfl, rfl⟩
          rw [o2, aft_v, s228_126]
          rcases val_b (F := (nI y, nI 0, nI 0, grM σ p k c.2.1, nI (layM σ p k))) hty with hv | hv
          · rw [hv, obl_f (fun q => nI_10 q.symm), cond_false]
            exact go τ1 (stk_t oC o1) (fun z => z.2.2.2.elim ke (fun w => w hv))
          · rw [hv, obl_t rfl, cond_true, is01_1, cond_true]
            exact ⟨τ1, stk_t oC o1, by rw [yes ⟨kg, k4, rfl, Or.inr (by rw [hv]; exact nI_10)⟩]⟩
    · rw [Nbf k4, cond_false]
      have := go τ ho (fun z => k4 z.2.1)
      rw [nI_add] at this
      exact this
theorem c228 {p k : Nat} (hd : 3 ≤ d) (hp : p < 20) (hk : k < 5) (hy : y ≤ 40) (h : LM LS X σ) : ∃ τ, Stk σ τ ∧ Run false d 228 0 [some (.ref 85), some (.int (nI p)), some (.int (nI k)), some (.int (nI y)), none, none] [] σ = some (.inl (some (.int (b1 (mwB σ LS p k y 0))), τ)) := by
  obtain ⟨d, rfl⟩ : ∃ z, d = z + 3 := ⟨d - 3, by omega⟩
  have hn := h.1
  have key : ∀ n r τ z5, LS.length - r = n → r ≤ LS.length → Stk σ τ → ∃ τ', Stk σ τ' ∧ Run false (d + 3) 228 3 [some (.ref 85), some (.int (nI p)), some (.int (nI k)), some (.int (nI y)), some (.int (nI r)), z5] [] τ = some (.inl (some (.int (b1 (mwB σ LS p k y r))), τ')) := by
    intro n
    induction n with
    | zero =>
      intro r τ z5 e1 e2 ho
      refine ⟨τ, ho, ?_⟩
      rw [s228_3, (LM_off (stk_off ho) h).2.1, oleT (show LS.length ≤ r by omega) (by omega), cond_true, is01_0, cond_true, b1_f (fun ⟨j, q1, q2, _⟩ => by omega)]
    | succ n ih =>
      intro r τ z5 e1 e2 ho
      have hr : r < LS.length := by omega
      obtain ⟨l1, l2⟩ := h.2.2.2.1 r hr
      have lw := h.2.2.1 r hr
      have l40 : (LS.getD r (0, [])).1 ≤ 40 := lw.1
      rw [s228_3, (LM_off (stk_off ho) h).2.1, oleF (by omega) (by omega), cond_false, nI_mul]
      by_cases hy2 : (LS.getD r (0, [])).1 ≤ y
      · obtain ⟨τ', o1, o2⟩ := c228_in (d := d) (y := y) (Q := mwB σ LS p k y (r + 1)) hp hk hy l40 (by omega) l2 l1 hy2 (fun i hi => clW_at lw hi) (fun τ1 z5' o => ih (r + 1) τ1 z5' (by omega) hr o) _ 0 τ rfl (Nat.zero_le _) ho
        refine ⟨τ', o1, ?_⟩
        refine o2.trans ?_
        rw [b1_c (show _ ↔ mwB σ LS p k y r from ?_)]
        rw [mwB_c hr]
        exact ⟨fun z => z.elim (fun q => Or.inl ⟨hy2, q⟩) Or.inr, fun z => z.elim (fun q => Or.inl q.2) Or.inr⟩
      · obtain ⟨τ', o1, o2⟩ := ih (r + 1) τ (some (.int (nI (16 * r)))) (by omega) hr ho
        refine ⟨τ', o1, ?_⟩
        have eF : AI τ 87 r = nI (LS.getD r (0, [])).1 := by rw [stkA ho 87 rfl, l1]
        have e88 : AI τ 88 r = nI (LS.getD r (0, [])).2.length := by rw [stkA ho 88 rfl, l2.2.1]
        have l16 := l2.1
        rw [s228_19, inbT (show r < 11 by omega) (by decide), cond_true, nI_clamp (by omega), e88, eF, oltT (show y < (LS.getD r (0, [])).1 by omega) (by omega), nI_mul, nI_add, nI_add, o2]
        rw [b1_c (show mwB σ LS p k y (r + 1) ↔ mwB σ LS p k y r from ?_)]
        · cases obl (nI (16 * r + (LS.getD r (0, [])).2.length) ≤ nI (16 * r)) <;> rfl
        · rw [mwB_c hr]
          exact ⟨Or.inr, fun z => z.elim (fun q => absurd q.1 hy2) id⟩
  rw [s228_0]
  exact key _ 0 σ none rfl (Nat.zero_le _) stk_r
/-- the same -/
theorem bn_same {p k : Nat} (hI : IP σ) (hp : p < 20) (hk : k < 5) (hmk : ¬ AI σ 98 p = nI 0) (hW : ∀ r, r < LS.length → lawW (LS.getD r (0, []))) : bnG σ LS y (5 * p + k) 0 ↔ mwB σ LS p k y 0 := by
  have hg : ∀ s, grM σ p k s = AI σ 100 (5 * (5 * p + k) + s) := fun s => by unfold grM; rw [obl_f hmk]; rfl
  have hz : ∀ s, s < 5 → (¬ AI σ 100 (5 * (5 * p + k) + s) ≤ nI 0 ↔ ¬ AI σ 100 (5 * (5 * p + k) + s) = nI 0) := by
    intro s hs
    obtain ⟨n, h1, h2, h3⟩ := (hI.2.2.2.1 (5 * (5 * p + k) + s) (by omega)).2
    rw [h3, nI_leI (by omega) (by decide), nI_eq (by omega) (by decide)]
    omega
  constructor
  · rintro ⟨s, -, h2, h3, q, -, h5, h6, j, -, h8, h9, h10, h11⟩
    refine ⟨q, Nat.zero_le _, h5, h6, j, Nat.zero_le _, h8, ?_, h9, rfl, ?_⟩
    · rw [h10, hg]; exact (hz s h2).mp h3
    · rw [h10, hg, layM_G hmk]; exact h11
  · rintro ⟨q, -, h5, h6, j, -, h8, h7, h9, -, h11⟩
    have hs := (clW_at (hW q h5) h8).2.1
    refine ⟨_, Nat.zero_le _, Nat.lt_succ_of_le hs, ?_, q, Nat.zero_le _, h5, h6, j, Nat.zero_le _, h8, h9, rfl, ?_⟩
    · rw [hz _ (Nat.lt_succ_of_le hs), ← hg]; exact h7
    · rw [hg, layM_G hmk] at h11; exact h11
end BD
