/-! THE PURE PROOFS: layers and bans -/
noncomputable def b1 (P : Prop) : Int32 := bif obl P then nI 1 else nI 0
theorem b1_t {P : Prop} (h : P) : b1 P = nI 1 := by unfold b1; rw [obl_t h]; rfl
theorem b1_f {P : Prop} (h : ¬ P) : b1 P = nI 0 := by unfold b1; rw [obl_f h]; rfl
theorem b1_is {P : Prop} : is01 (b1 P) = true := by
  unfold b1
  cases obl P
  · exact is01_0
  · exact is01_1
theorem b1_c {P Q : Prop} (h : P ↔ Q) : b1 P = b1 Q := by rw [propext h]
theorem b1_0 {P : Prop} : obl (b1 P = nI 0) = !obl P := by
  unfold b1
  cases obl P
  · exact obl_t rfl
  · exact obl_f nI_10
theorem b1_Z {P : Prop} : isZ (.int (b1 P)) := by
  unfold b1
  cases obl P
  · exact Or.inl rfl
  · exact Or.inr rfl
theorem ev_ty {F : FCT} : ∀ {cs : List CD} {st : List Int32} {t t' : List Bool}, stT st t → tyA t cs = some t' → stT (evL F st cs) t' := by
  intro cs
  induction cs with
  | nil => intro st t t' h1 h2; cases h2; exact h1
  | cons c cs ih =>
    intro st t t' h1 h2
    unfold tyA at h2
    cases e1 : tyC t c with
    | none => rw [e1] at h2; cases h2
    | some u =>
      rw [e1] at h2
      refine ih (t := u) ?_ h2
      rcases tyC_cases e1 h1 with ⟨k1, k2, k3, k4⟩ | ⟨k1, k2, a, b, r, rfl, k4, k5⟩ | ⟨k1, a, r, rfl, k2⟩
      · unfold evC
        by_cases k0 : c.1 = 0
        · rw [if_pos k0]; exact k4 _
        · rw [if_neg k0, if_pos k1]; exact k4 _
      · unfold evC
        rw [if_neg (by omega), if_neg (by omega), if_neg (by omega)]
        exact k5
      · unfold evC
        rw [if_neg (by omega), if_neg (by omega), if_pos k1]
        exact k2
theorem val_b {F : FCT} {cs : List CD} (h : tyA [] cs = some [true]) : B01 (valC F cs) := by
  have h1 := ev_ty (F := F) (st := []) (t := []) trivial h
  unfold valC
  match he : evL F [] cs, h1 with
  | [v], h1 => exact h1.1 rfl
section BN
variable {d s y : Nat} {LS : List LAW} {X : Option (List CLS)} {σ : PS}
/-- how many of the first n sorts have grams -/
noncomputable def layN (f : Nat → Int32) : Nat → Nat
  | 0 => 0
  | n + 1 => bif obl (f n ≤ nI 0) then layN f n else layN f n + 1
theorem layN_le {f : Nat → Int32} : ∀ n, layN f n ≤ n := by
  intro n
  induction n with
  | zero => exact Nat.le_refl _
  | succ n ih =>
    show (bif obl (f n ≤ nI 0) then layN f n else layN f n + 1) ≤ n + 1
    cases obl (f n ≤ nI 0)
    · show layN f n + 1 ≤ _; omega
    · show layN f n ≤ _; omega
noncomputable def layG (σ : PS) (g : Nat) : Nat := layN (fun s => AI σ 100 (5 * g + s)) 5
noncomputable def layM (σ : PS) (p k : Nat) : Nat := layN (fun s => grM σ p k s) 5
theorem layM_G {p k : Nat} (h : ¬ AI σ 98 p = nI 0) : layM σ p k = layG σ (5 * p + k) := by
  unfold layM layG
  congr 1
  funext s
  unfold grM
  rw [obl_f h]; rfl
theorem c126 {g : Nat} (hd : 2 ≤ d) (hI : IP σ) (hg : g < 100) : Run false d 126 0 [some (.ref 17), some (.int (nI g)), none, none] [] σ = some (.inl (some (.int (nI (layG σ g))), σ)) := by
  obtain ⟨d, rfl⟩ := dS (show 1 ≤ d by omega)
  rw [s126_0]
  refine (lpU (f := fun j => Run false (d + 1) 126 4 [some (.ref 17), some (.int (nI g)), some (.int (nI (layN (fun s => AI σ 100 (5 * g + s)) j))), some (.int (nI j))] [] σ) (n := 5) (fun j hj => ?_) 0 (Nat.zero_le _)).trans ?_
  · rw [s126_4, oleF (show j < 5 by omega) (by decide), cond_false, c125 (by omega) hI hg (by omega), aft_v, s126_15, nI_add, nI_add]
    show (_ : Option PO) = Run false (d + 1) 126 4 [some (.ref 17), some (.int (nI g)), some (.int (nI (bif obl (AI σ 100 (5 * g + j) ≤ nI 0) then layN (fun s => AI σ 100 (5 * g + s)) j else layN (fun s => AI σ 100 (5 * g + s)) j + 1))), some (.int (nI (j + 1)))] [] σ
    cases obl (AI σ 100 (5 * g + j) ≤ nI 0) <;> rfl
  · rw [s126_4, oleT (Nat.le_refl _) (by decide)]
    rfl
theorem c223 {p k : Nat} (hd : 2 ≤ d) (hp : p < 20) (hk : k < 5) : Run false d 223 0 [some (.ref 85), some (.int (nI p)), some (.int (nI k)), none, none] [] σ = some (.inl (some (.int (nI (layM σ p k))), σ)) := by
  obtain ⟨d, rfl⟩ := dS (show 1 ≤ d by omega)
  rw [s223_0]
  refine (lpU (f := fun j => Run false (d + 1) 223 5 [some (.ref 85), some (.int (nI p)), some (.int (nI k)), some (.int (nI (layN (fun s => grM σ p k s) j))), some (.int (nI j))] [] σ) (n := 5) (fun j hj => ?_) 0 (Nat.zero_le _)).trans ?_
  · rw [s223_5, oleF (show j < 5 by omega) (by decide), cond_false, c213 (by omega) hp hk (by omega), aft_v, s223_20, nI_add, nI_add, nI_add]
    show (_ : Option PO) = Run false (d + 1) 223 5 [some (.ref 85), some (.int (nI p)), some (.int (nI k)), some (.int (nI (bif obl (grM σ p k j ≤ nI 0) then layN (fun s => grM σ p k s) j else layN (fun s => grM σ p k s) j + 1))), some (.int (nI (j + 1)))] [] σ
    cases obl (grM σ p k j ≤ nI 0) <;> rfl
  · rw [s223_5, oleT (Nat.le_refl _) (by decide)]
    rfl
/-- a ban that holds -/
def clB (F : FCT) (s : Nat) (c : CLS) : Prop := c.1 = 4 ∧ c.2.1 = s ∧ (c.2.2.2 = [] ∨ ¬ valC F c.2.2.2 = nI 0)
def rowB (F : FCT) (s : Nat) (cs : List CLS) (i : Nat) : Prop := ∃ j, i ≤ j ∧ j < cs.length ∧ clB F s (cs.getD j (0, 0, 0, []))
def lawB (F : FCT) (s : Nat) (LS : List LAW) (y r : Nat) : Prop := ∃ q, r ≤ q ∧ q < LS.length ∧ (LS.getD q (0, [])).1 ≤ y ∧ rowB F s (LS.getD q (0, [])).2 0
theorem rowB_c {F : FCT} {cs : List CLS} {i : Nat} (h : i < cs.length) : rowB F s cs i ↔ (clB F s (cs.getD i (0, 0, 0, [])) ∨ rowB F s cs (i + 1)) := by
  constructor
  · rintro ⟨j, h1, h2, h3⟩
    by_cases q : j = i
    · subst q; exact Or.inl h3
    · exact Or.inr ⟨j, by omega, h2, h3⟩
  · rintro (h1 | ⟨j, h1, h2, h3⟩)
    · exact ⟨i, Nat.le_refl _, h, h1⟩
    · exact ⟨j, by omega, h2, h3⟩
theorem rowB_n {F : FCT} {cs : List CLS} {i : Nat} (h : cs.length ≤ i) : ¬ rowB F s cs i := fun ⟨j, h1, h2, _⟩ => by omega
theorem lawB_c {F : FCT} {r : Nat} (h : r < LS.length) : lawB F s LS y r ↔ (((LS.getD r (0, [])).1 ≤ y ∧ rowB F s (LS.getD r (0, [])).2 0) ∨ lawB F s LS y (r + 1)) := by
  constructor
  · rintro ⟨j, h1, h2, h3⟩
    by_cases q : j = r
    · subst q; exact Or.inl h3
    · exact Or.inr ⟨j, by omega, h2, h3⟩
  · rintro (h1 | ⟨j, h1, h2, h3⟩)
    · exact ⟨r, Nat.le_refl _, h, h1⟩
    · exact ⟨j, by omega, h2, h3⟩
theorem lawB_n {F : FCT} {r : Nat} (h : LS.length ≤ r) : ¬ lawB F s LS y r := fun ⟨j, h1, h2, _⟩ => by omega
theorem rowC_off {τ : PS} {r : Nat} {cs : List CLS} (h : Off σ τ) (g : rowC σ r cs) : rowC τ r cs := by
  unfold rowC clC at g ⊢
  rw [offA h 3 rfl, offA h 4 rfl, offA h 5 rfl, offA h 6 rfl, offA h 7 rfl, offA h 8 rfl, offA h 9 rfl]
  exact g
theorem c101_in {r : Nat} {cs : List CLS} {g la : Int32} {Q : Prop} (hr : r < 11) (hs : s ≤ 4) (hR : rowC σ r cs) (hW : ∀ i, i < cs.length → clW (cs.getD i (0, 0, 0, [])))
    (next : ∀ τ z6 z7, Stk σ τ → ∃ τ', Stk σ τ' ∧ Run false (d + 3) 101 3 [some (.ref 1), some (.int (nI s)), some (.int (nI y)), some (.int g), some (.int la), some (.int (nI (r + 1))), z6, z7] [] τ = some (.inl (some (.int (b1 Q)), τ'))) : ∀ n i τ z7, cs.length - i = n → i ≤ cs.length → Stk σ τ → ∃ τ', Stk σ τ' ∧ Run false (d + 3) 101 29 [some (.ref 1), some (.int (nI s)), some (.int (nI y)), some (.int g), some (.int la), some (.int (nI r)), some (.int (nI i)), z7] [] τ = some (.inl (some (.int (b1 (rowB (nI y, nI 0, nI 0, g, la) s cs i ∨ Q))), τ')) := by
  have h16 := hR.1
  intro n
  induction n with
  | zero =>
    intro i τ z7 e1 e2 ho
    have : i = cs.length := by omega
    subst this
    obtain ⟨τ', o1, o2⟩ := next τ (some (.int (nI cs.length))) z7 ho
    refine ⟨τ', o1, ?_⟩
    rw [s101_29, inbT hr (by decide), cond_true, nI_clamp (by omega), (rowC_off (stk_off ho) hR).2.1, oleT (Nat.le_refl _) (by omega), cond_true, nI_add, o2]
    rw [b1_c (show (rowB (nI y, nI 0, nI 0, g, la) s cs cs.length ∨ Q) ↔ Q from ⟨fun z => z.resolve_left (rowB_n (Nat.le_refl _)), Or.inr⟩)]
  | succ n ih =>
    intro i τ z7 e1 e2 ho
    have hi : i < cs.length := by omega
    have hc := (rowC_off (stk_off ho) hR).2.2 i hi
    have hw := hW i hi
    have hc0 := hR.2.2 i hi
    have e16 : r * 16 + i = 16 * r + i := by omega
    generalize hcl : cs.getD i (0, 0, 0, []) = c at hc hw hc0
    have go : ∀ τ1 z7', Stk σ τ1 → ¬ clB (nI y, nI 0, nI 0, g, la) s c → ∃ τ', Stk σ τ' ∧ Run false (d + 3) 101 29 [some (.ref 1), some (.int (nI s)), some (.int (nI y)), some (.int g), some (.int la), some (.int (nI r)), some (.int (nI (i + 1))), z7'] [] τ1 = some (.inl (some (.int (b1 (rowB (nI y, nI 0, nI 0, g, la) s cs i ∨ Q))), τ')) := by
      intro τ1 z7' o1 hn
      obtain ⟨τ', o2, o3⟩ := ih (i + 1) τ1 z7' (by omega) hi o1
      refine ⟨τ', o2, ?_⟩
      rw [o3, b1_c (show (rowB (nI y, nI 0, nI 0, g, la) s cs (i + 1) ∨ Q) ↔ (rowB (nI y, nI 0, nI 0, g, la) s cs i ∨ Q) from ?_)]
      rw [rowB_c hi, hcl]
      exact ⟨fun z => z.elim (fun q => Or.inl (Or.inr q)) Or.inr, fun z => z.elim (fun q => q.elim (fun q => absurd q hn) Or.inl) Or.inr⟩
    have yes : clB (nI y, nI 0, nI 0, g, la) s c → b1 (rowB (nI y, nI 0, nI 0, g, la) s cs i ∨ Q) = nI 1 := fun q => b1_t (Or.inl ((rowB_c hi).mpr (Or.inl (by rw [hcl]; exact q))))
    rw [s101_29]
    simp (disch := omega) only [inbT, cond_true, nI_clamp, (rowC_off (stk_off ho) hR).2.1, oleF, cond_false, nI_mul, nI_add, e16]
    obtain ⟨g4, g5, g6, s0, hlen, g7, g8, g9⟩ := hc
    rw [g4, g5, show nI 214 = nI (210 + 4) from rfl, Oeb (by have := hw.1; omega) (by omega)]
    by_cases k4 : c.1 = 4
    · rw [Nbt (by omega), cond_true, if_pos (by omega), Oeb (by have := hw.2.1; omega) (by omega)]
      by_cases ks : c.2.1 = s
      · rw [Nbt ks, cond_true, g7, g8, Oeb (by omega) (by omega)]
        by_cases ke : c.2.2.2 = []
        · rw [Nbt (by rw [ke]; rfl), cond_true, is01_1, cond_true]
          exact ⟨τ, ho, by rw [yes ⟨k4, ks, Or.inl ke⟩]⟩
        · have hlp : 0 < c.2.2.2.length := List.length_pos_iff.mpr ke
          rw [Nbf (by omega), cond_false]
          have hty : tyA [] c.2.2.2 = some [true] := (hw.2.2.2.2.2.2.2 k4).resolve_left ke
          have hcT : clC τ r (16 * r + i) c := by have := (rowC_off (stk_off ho) hR).2.2 i hi; rw [hcl] at this; exact this
          obtain ⟨τ1, o1, o2⟩ := c102 (d := d + 2) (F := (nI y, nI 0, nI 0, g, la)) (by omega) (show 16 * r + i < 176 by omega) hr hcT hty
          rw [show Run false (d + 2) 102 0 [some (.ref 1), some (.int (nI (16 * r + i))), some (.int (nI y)), some (.int (nI 0)), some (.int (nI 0)), some (.int g), some (.int la), none, none, none] [] τ = _ from o2, aft_v, s101_104]
          cases hv : obl (valC (nI y, nI 0, nI 0, g, la) c.2.2.2 = nI 0) with
          | true =>
            rw [cond_true, nI_add]
            exact go τ1 _ (stk_t ho o1) (fun z => z.2.2.elim ke (fun w => w ((obl_iff _).mp hv)))
          | false =>
            rw [cond_false, is01_1, cond_true]
            exact ⟨τ1, stk_t ho o1, by rw [yes ⟨k4, ks, Or.inr (fun z => by rw [obl_t z] at hv; cases hv)⟩]⟩
      · rw [Nbf ks, cond_false]
        exact go τ _ ho (fun z => ks z.2.1)
    · rw [Nbf (by omega), cond_false]
      exact go τ _ ho (fun z => k4 z.1)
/-- the class: does a ban hold -/
theorem c101 {g la : Int32} (hd : 3 ≤ d) (hs : s ≤ 4) (hy : y ≤ 40) (h : LC LS σ) : ∃ τ, Stk σ τ ∧ Run false d 101 0 [some (.ref 1), some (.int (nI s)), some (.int (nI y)), some (.int g), some (.int la), none, none, none] [] σ = some (.inl (some (.int (b1 (lawB (nI y, nI 0, nI 0, g, la) s LS y 0))), τ)) := by
  obtain ⟨d, rfl⟩ : ∃ z, d = z + 3 := ⟨d - 3, by omega⟩
  have hn := h.1
  have key : ∀ n r τ z6 z7, LS.length - r = n → r ≤ LS.length → Stk σ τ → ∃ τ', Stk σ τ' ∧ Run false (d + 3) 101 3 [some (.ref 1), some (.int (nI s)), some (.int (nI y)), some (.int g), some (.int la), some (.int (nI r)), z6, z7] [] τ = some (.inl (some (.int (b1 (lawB (nI y, nI 0, nI 0, g, la) s LS y r))), τ')) := by
    intro n
    induction n with
    | zero =>
      intro r τ z6 z7 e1 e2 ho
      have : r = LS.length := by omega
      subst this
      refine ⟨τ, ho, ?_⟩
      rw [s101_3, (LC_off (stk_off ho) h).2.1, oleT (Nat.le_refl _) (by omega), cond_true, is01_0, cond_true, b1_f (lawB_n (Nat.le_refl _))]
    | succ n ih =>
      intro r τ z6 z7 e1 e2 ho
      have hr : r < LS.length := by omega
      obtain ⟨l1, l2⟩ := (LC_off (stk_off ho) h).2.2.2 r hr
      have lw := h.2.2.1 r hr
      have l40 : (LS.getD r (0, [])).1 ≤ 40 := lw.1
      rw [s101_3, (LC_off (stk_off ho) h).2.1, oleF (by omega) (by omega), cond_false, inbT (by omega) (by decide), cond_true, nI_clamp (by omega), l1, Olb (by omega) (by omega)]
      cases hy2 : Nat.ble (LS.getD r (0, [])).1 y with
      | false =>
        obtain ⟨τ', o1, o2⟩ := ih (r + 1) τ z6 z7 (by omega) hr ho
        refine ⟨τ', o1, ?_⟩
        rw [cond_false, nI_add, o2, b1_c (show lawB (nI y, nI 0, nI 0, g, la) s LS y (r + 1) ↔ lawB (nI y, nI 0, nI 0, g, la) s LS y r from ?_)]
        rw [lawB_c hr]
        exact ⟨Or.inr, fun z => z.elim (fun q => by rw [Nlt q.1] at hy2; cases hy2) id⟩
      | true =>
        have hy3 := Nat.le_of_ble_eq_true hy2
        obtain ⟨τ', o1, o2⟩ := c101_in (d := d) (g := g) (la := la) (y := y) (Q := lawB (nI y, nI 0, nI 0, g, la) s LS y (r + 1)) (by omega) hs ((h.2.2.2 r hr).2) (fun i hi => clW_at lw hi) (fun τ1 z6' z7' o => ih (r + 1) τ1 z6' z7' (by omega) hr o) _ 0 τ z7 rfl (Nat.zero_le _) ho
        refine ⟨τ', o1, ?_⟩
        rw [cond_true, o2, b1_c (show _ ↔ lawB (nI y, nI 0, nI 0, g, la) s LS y r from ?_)]
        rw [lawB_c hr]
        exact ⟨fun z => z.elim (fun q => Or.inl ⟨hy3, q⟩) Or.inr, fun z => z.elim (fun q => Or.inl q.2) Or.inr⟩
  rw [s101_0]
  exact key _ 0 σ none none rfl (Nat.zero_le _) stk_r
end BN
