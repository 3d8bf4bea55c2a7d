/-! THE PURE PROOFS: what laws tell -/
theorem lastIx_some {P : Nat → Bool} : ∀ {n i : Nat}, lastIx P n = some i → i < n ∧ P i = true := by
  intro n
  induction n with
  | zero => intro i h; cases h
  | succ n ih =>
    intro i h
    unfold lastIx at h
    cases e : P n with
    | true => rw [e] at h; cases h; exact ⟨Nat.lt_succ_self _, e⟩
    | false =>
      rw [e] at h
      obtain ⟨h1, h2⟩ := ih (show lastIx P n = some i from h)
      exact ⟨by omega, h2⟩
theorem mtc_k {k s : Nat} {c : CLS} (h : mtc k s c = true) : c.1 = k := by
  unfold mtc at h
  rw [Bool.and_eq_true] at h
  exact Nat.eq_of_beq_eq_true h.1
theorem lawIx_some {LS : List LAW} {k s y : Nat} : ∀ {n ix : Nat}, lawIx LS k s y n = some ix → ∃ r i, r < n ∧ i < (LS.getD r (0, [])).2.length ∧ ix = 16 * r + i ∧ mtc k s ((LS.getD r (0, [])).2.getD i (0, 0, 0, [])) = true ∧ (LS.getD r (0, [])).1 ≤ y := by
  intro n
  induction n with
  | zero => intro ix h; cases h
  | succ n ih =>
    intro ix h
    unfold lawIx at h
    cases e : Nat.ble (LS.getD n (0, [])).1 y with
    | false =>
      rw [e] at h
      obtain ⟨r, i, h1, h2⟩ := ih (show lawIx LS k s y n = some ix from h)
      exact ⟨r, i, by omega, h2⟩
    | true =>
      rw [e, cond_true] at h
      cases e2 : rowIx (LS.getD n (0, [])).2 k s (LS.getD n (0, [])).2.length with
      | none =>
        rw [e2] at h
        obtain ⟨r, i, h1, h2⟩ := ih (show lawIx LS k s y n = some ix from h)
        exact ⟨r, i, by omega, h2⟩
      | some i =>
        rw [e2] at h
        cases h
        obtain ⟨h1, h2⟩ := lastIx_some e2
        exact ⟨n, i, Nat.lt_succ_self _, h1, rfl, h2, Nat.le_of_ble_eq_true e⟩
/-- the clause that counts -/
def clL (LS : List LAW) (k s y : Nat) : Option CLS := (lawIx LS k s y LS.length).map fun ix => (LS.getD (ix / 16) (0, [])).2.getD (ix % 16) (0, 0, 0, [])
def clX (LS : List LAW) (X : Option (List CLS)) (k s y : Nat) : Option CLS := match X with
  | some cs => (match rowIx cs k s cs.length with | some i => some (cs.getD i (0, 0, 0, [])) | none => clL LS k s y)
  | none => clL LS k s y
/-- a place in the class, in the model, that holds that clause -/
def atC (σ : PS) (k : Nat) (r : Option Nat) (o : Option CLS) : Prop := match r, o with
  | none, none => True
  | some ix, some c => ix < 176 ∧ clC σ (ix / 16) ix c ∧ clW c ∧ c.1 = k
  | _, _ => False
def atM (σ : PS) (k : Nat) (r : Option Nat) (o : Option CLS) : Prop := match r, o with
  | none, none => True
  | some ix, some c => ix < 176 ∧ clM σ (ix / 16) ix c ∧ clW c ∧ c.1 = k
  | _, _ => False
def clOK (k : Nat) (o : Option CLS) : Prop := ∀ c, o = some c → clW c ∧ c.1 = k
theorem clF_C {LS : List LAW} {σ : PS} {k s y : Nat} (h : LC LS σ) : atC σ k (lawIx LS k s y LS.length) (clL LS k s y) := by
  unfold clL
  cases e : lawIx LS k s y LS.length with
  | none => trivial
  | some ix =>
    obtain ⟨r, i, h1, h2, rfl, h3, -⟩ := lawIx_some e
    obtain ⟨g1, g2⟩ := h.2.2.2 r h1
    have g3 := g2.1
    have g4 := h.1
    have e1 : (16 * r + i) / 16 = r := by omega
    have e2 : (16 * r + i) % 16 = i := by omega
    show _ < 176 ∧ _
    dsimp only
    rw [e1, e2]
    exact ⟨by omega, g2.2.2 i h2, clW_at (h.2.2.1 r h1) h2, mtc_k h3⟩
theorem clF_M {LS : List LAW} {X : Option (List CLS)} {σ : PS} {k s y : Nat} (h : LM LS X σ) : atM σ k (lawIx LS k s y LS.length) (clL LS k s y) := by
  unfold clL
  cases e : lawIx LS k s y LS.length with
  | none => trivial
  | some ix =>
    obtain ⟨r, i, h1, h2, rfl, h3, -⟩ := lawIx_some e
    obtain ⟨g1, g2⟩ := h.2.2.2.1 r h1
    have g3 := g2.1
    have g4 := h.1
    have e1 : (16 * r + i) / 16 = r := by omega
    have e2 : (16 * r + i) % 16 = i := by omega
    show _ < 176 ∧ _
    dsimp only
    rw [e1, e2]
    exact ⟨by omega, g2.2.2 i h2, clW_at (h.2.2.1 r h1) h2, mtc_k h3⟩
theorem clX_M {LS : List LAW} {X : Option (List CLS)} {σ : PS} {k s y : Nat} (h : LM LS X σ) : atM σ k (mIx LS X k s y 11) (clX LS X k s y) := by
  rw [mIx_end h.1]
  cases X with
  | none => exact clF_M h
  | some cs =>
    unfold clX
    dsimp only
    cases e : rowIx cs k s cs.length with
    | none => exact clF_M h
    | some i =>
      dsimp only
      obtain ⟨h1, h2⟩ := lastIx_some e
      obtain ⟨x1, x2, x3⟩ := h.2.2.2.2
      have g3 := x2.1
      have e1 : (160 + i) / 16 = 10 := by omega
      show _ < 176 ∧ _
      rw [e1]
      exact ⟨by omega, x2.2.2 i h1, x3 _ (getD_mem h1), mtc_k h2⟩
theorem atC_ok {σ : PS} {k : Nat} {r : Option Nat} {o : Option CLS} (h : atC σ k r o) : clOK k o := by
  intro c hc
  subst hc
  cases r with
  | none => exact h.elim
  | some ix => exact h.2.2
theorem atM_ok {σ : PS} {k : Nat} {r : Option Nat} {o : Option CLS} (h : atM σ k r o) : clOK k o := by
  intro c hc
  subst hc
  cases r with
  | none => exact h.elim
  | some ix => exact h.2.2
def numV (o : Option CLS) (d : Nat) : Nat := match o with
  | none => d
  | some c => c.2.2.1
theorem numV_b {k d b : Nat} {o : Option CLS} (h : clOK k o) (hb : ∀ c, clW c → c.1 = k → c.2.2.1 ≤ b) (hd : d ≤ b) : numV o d ≤ b := by
  cases o with
  | none => exact hd
  | some c => exact hb c (h c rfl).1 (h c rfl).2
theorem numV_1 {k d b : Nat} {o : Option CLS} (h : clOK k o) (hb : ∀ c, clW c → c.1 = k → b ≤ c.2.2.1) (hd : b ≤ d) : b ≤ numV o d := by
  cases o with
  | none => exact hd
  | some c => exact hb c (h c rfl).1 (h c rfl).2
/-- trips, off, target, and the others -/
theorem num_trips {o : Option CLS} (h : clOK 6 o) : 1 ≤ numV o 1 ∧ numV o 1 ≤ 50 := ⟨numV_1 h (fun c w e => (w.2.2.2.2.1 e).1) (by decide), numV_b h (fun c w e => (w.2.2.2.2.1 e).2) (by decide)⟩
theorem num_off {o : Option CLS} (h : clOK 2 o) : numV o 100 ≤ 100 := numV_b h (fun c w e => w.2.2.2.1 (Or.inr e)) (by decide)
theorem num_target {o : Option CLS} (h : clOK 1 o) : numV o 0 ≤ 100 := numV_b h (fun c w e => w.2.2.2.1 (Or.inl e)) (by decide)
theorem num_orph {o : Option CLS} (h : clOK 7 o) : numV o 0 ≤ 1 := numV_b h (fun c w e => w.2.2.2.2.2.1 e) (by decide)
theorem num_any {k d : Nat} {o : Option CLS} (h : clOK k o) (hd : d ≤ 9999) : numV o d ≤ 9999 := numV_b h (fun c w e => w.2.2.1) hd
theorem c100 {d k s y w : Nat} {LS : List LAW} {σ : PS} (hd : 2 ≤ d) (hk : k ≤ 7) (hs : s ≤ 4) (hy : y ≤ 40) (h : LC LS σ) : Run false d 100 0 [some (.ref 1), some (.int (nI (210 + k))), some (.int (srtV k s)), some (.int (nI y)), some (.int (nI w)), none] [] σ = some (.inl (some (.int (nI (numV (clL LS k s y) w))), σ)) := by
  obtain ⟨d, rfl⟩ := dS (show 1 ≤ d by omega)
  have hc := clF_C (k := k) (s := s) (y := y) h
  rw [s100_0, c99 (by omega) hk hs hy h, aft_v, s100_7]
  cases e : lawIx LS k s y LS.length with
  | none =>
    rw [e] at hc
    cases e2 : clL LS k s y with
    | none => rw [obl_f (show ¬ nI 0 ≤ ixV none by decide +kernel)]; rfl
    | some c => rw [e2] at hc; exact hc.elim
  | some ix =>
    rw [e] at hc
    cases e2 : clL LS k s y with
    | none => rw [e2] at hc; exact hc.elim
    | some c =>
      rw [e2] at hc
      obtain ⟨h1, h2, -⟩ := hc
      unfold ixV
      dsimp only
      rw [oleT (Nat.zero_le _) (by omega), inbT h1 (by decide), nI_clamp (by omega), h2.2.2.1]
      rfl
def dfl (k : Nat) : Nat := if k = 2 then 100 else if k = 6 then 1 else 0
theorem c200 {d k s y : Nat} {LS : List LAW} {X : Option (List CLS)} {σ : PS} (hd : 2 ≤ d) (hk : k ≤ 7) (hs : s ≤ 4) (hy : y ≤ 40) (h : LM LS X σ) (hn0 : k ≠ 0 ∧ k ≠ 4 := by decide) : Run false d 200 0 [some (.ref 85), some (.int (nI k)), some (.int (nI (if k ≤ 4 then s else 0))), some (.int (nI y)), none] [] σ = some (.inl (some (.int (nI (numV (clX LS X k s y) (dfl k)))), σ)) := by
  obtain ⟨d, rfl⟩ := dS (show 1 ≤ d by omega)
  have hc := clX_M (k := k) (s := s) (y := y) h
  rw [s200_0, c199 (by omega) hk hs hy h, aft_v, s200_7]
  cases e : mIx LS X k s y 11 with
  | none =>
    rw [e] at hc
    cases e2 : clX LS X k s y with
    | none =>
      rw [obl_t (show ixV none = -1 from rfl), cond_true, Oeb (by omega) (by decide), Oeb (by omega) (by decide)]
      unfold dfl
      by_cases q : k = 2
      · rw [Nbt q, if_pos q]; rfl
      · rw [Nbf q, if_neg q]
        by_cases q2 : k = 6
        · rw [Nbt q2, if_pos q2]; rfl
        · rw [Nbf q2, if_neg q2]; rfl
    | some c => rw [e2] at hc; exact hc.elim
  | some ix =>
    rw [e] at hc
    cases e2 : clX LS X k s y with
    | none => rw [e2] at hc; exact hc.elim
    | some c =>
      rw [e2] at hc
      obtain ⟨h1, h2, -, h3⟩ := hc
      have h4 : AI σ 91 ix = nI c.2.2.1 := (h2.2.2.1.resolve_left (fun w => hn0.1 (h3.symm.trans w))).resolve_left (fun w => hn0.2 (h3.symm.trans w))
      unfold ixV
      dsimp only
      rw [obl_f (nI_m1n (by omega)), inbT h1 (by decide), nI_clamp (by omega), h4]
      rfl
/-- both sides hold the same laws -/
theorem IL_C {LS : List LAW} {σ : PS} (h : IL LS σ) : LC LS σ := ⟨by have := h.1; omega, h.2.2.1, fun r hr => h.2.2.2.1 _ (getD_mem hr), fun r hr => ⟨(h.2.2.2.2 r hr).1, (h.2.2.2.2 r hr).2.2.1⟩⟩
theorem IL_M {LS : List LAW} {σ : PS} (h : IL LS σ) (h0 : FI σ 85 22 = nI 0) : LM LS none σ := ⟨h.1, h.2.1, fun r hr => h.2.2.2.1 _ (getD_mem hr), fun r hr => ⟨(h.2.2.2.2 r hr).2.1, (h.2.2.2.2 r hr).2.2.2⟩, h0⟩
theorem LC_off {LS : List LAW} {σ τ : PS} (h : Off σ τ) (g : LC LS σ) : LC LS τ := by
  unfold LC rowC clC at g ⊢
  rw [offF h 1 0 rfl, offA h 2 rfl, offA h 3 rfl, offA h 4 rfl, offA h 5 rfl, offA h 6 rfl, offA h 7 rfl, offA h 8 rfl, offA h 9 rfl]
  exact g
theorem LM_off {LS : List LAW} {X : Option (List CLS)} {σ τ : PS} (h : Off σ τ) (g : LM LS X σ) : LM LS X τ := by
  unfold LM rowM clM at g ⊢
  rw [offF h 85 10 rfl, offF h 85 22 rfl, offA h 87 rfl, offA h 88 rfl, offA h 89 rfl, offA h 90 rfl, offA h 91 rfl, offA h 92 rfl, offA h 93 rfl, offA h 94 rfl, offA h 95 rfl]
  exact g
/-- with one law more, from y on, in y -/
theorem clF_X {LS : List LAW} {cs : List CLS} {k s y : Nat} (h16 : ∀ r, r < LS.length → (LS.getD r (0, [])).2.length ≤ 16) (hcs : cs.length ≤ 16) : clL (LS ++ [(y, cs)]) k s y = clX LS (some cs) k s y := by
  have hg : ∀ r, r < LS.length → (LS ++ [(y, cs)]).getD r (0, []) = LS.getD r (0, []) := fun r hr => by
    rw [List.getD_eq_getElem?_getD, List.getElem?_append_left hr, List.getD_eq_getElem?_getD]
  have he : (LS ++ [(y, cs)]).getD LS.length (0, []) = (y, cs) := by
    rw [List.getD_eq_getElem?_getD, List.getElem?_append_right (Nat.le_refl _), Nat.sub_self]; rfl
  have hl : ∀ n, n ≤ LS.length → lawIx (LS ++ [(y, cs)]) k s y n = lawIx LS k s y n := by
    intro n
    induction n with
    | zero => intro _; rfl
    | succ n ih =>
      intro hn
      unfold lawIx
      rw [hg n (by omega), ih (by omega)]
  unfold clL clX
  rw [List.length_append, show LS.length + [(y, cs)].length = LS.length + 1 from rfl]
  unfold lawIx
  rw [he, Nlt (Nat.le_refl y), cond_true, hl _ (Nat.le_refl _)]
  dsimp only
  cases e : rowIx cs k s cs.length with
  | none =>
    dsimp only
    unfold clL
    cases e2 : lawIx LS k s y LS.length with
    | none => rfl
    | some ix =>
      obtain ⟨r, i, h1, h2, rfl, -⟩ := lawIx_some e2
      have := h16 r h1
      show some _ = some _
      dsimp only
      rw [hg _ (by omega)]
  | some i =>
    obtain ⟨h1, h2⟩ := lastIx_some e
    show some _ = some _
    dsimp only
    rw [show (16 * LS.length + i) / 16 = LS.length by omega, show (16 * LS.length + i) % 16 = i by omega, he]
