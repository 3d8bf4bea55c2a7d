/-! THE PURE PROOFS: what no run changes, once all objects are made -/
def oS (o : PO) : PS := match o with
  | .inl (_, σ) => σ
  | .inr (_, σ) => σ
def kS (σ τ : PS) : Prop := xL (XX τ) = xL (XX σ) ∧ AI τ 999 = AI σ 999 ∧ xN (XX τ) = xN (XX σ) ∧ xR (XX τ) = xR (XX σ)
theorem kS_r {σ : PS} : kS σ σ := ⟨rfl, rfl, rfl, rfl⟩
theorem kS_t {σ τ υ : PS} (h : kS σ τ) (g : kS τ υ) : kS σ υ := ⟨g.1.trans h.1, g.2.1.trans h.2.1, g.2.2.1.trans h.2.2.1, g.2.2.2.trans h.2.2.2⟩
theorem ex2_pf {σ : PS} {a k kd : Nat} {w : Value} {K : PS → Option PO} {o : PO} {P : Prop} (h : pfF false σ a k kd w K = some o) (hK : ∀ σ', K σ' = some o → kS σ σ' → P) : P := by
  unfold pfF at h
  split at h <;> (split at h <;> first | exact hK _ h kS_r | (cases h; done) | (rcases ex_bif h with h | h <;> first | exact hK _ h kS_r | (cases h; done)))
theorem arr_999 : (arrk 999).2 = 0 := rfl
theorem inb_0 {i : Int32} : inb i 0 = false := by
  unfold inb
  apply obl_f
  intro h
  exact h (Or.inr (Nat.zero_le _))
theorem kS_st {σ : PS} {o j : Nat} {x : Int32} (h : o ≠ 999) : kS σ (σ.1, σ.2.1, ua (AI σ) o j x, σ.2.2.2) := ⟨rfl, ua_o (fun e => h e.symm), rfl, rfl⟩
theorem ex2_st {σ : PS} {kd : Nat} {st : List Value} {K : List Value → PS → Option PO} {o : PO} {P : Prop} (h : stF false σ kd st K = some o) (hK : ∀ t σ', K t σ' = some o → kS σ σ' → P) : P := by
  unfold stF at h
  split at h
  · rename_i x i q t
    rcases ex_bif h with h | h
    · have hq : q ≠ 999 ∨ (bif inb i (ark false σ q).2 then (bif Nat.beq kd 3 then (bif is01 x then K t (σ.1, σ.2.1, ua (AI σ) q i.toNatClampNeg x, σ.2.2.2) else none) else K t (σ.1, σ.2.1, ua (AI σ) q i.toNatClampNeg x, σ.2.2.2)) else none) = none := by
        by_cases w : q = 999
        · subst w
          right
          have e : (ark false σ 999).2 = 0 := rfl
          rw [e, inb_0]; rfl
        · exact Or.inl w
      rcases hq with hq | hq
      · rcases ex_bif h with h | h
        · rcases ex_bif h with h | h
          · rcases ex_bif h with h | h
            · exact hK _ _ h (kS_st hq)
            · cases h
          · exact hK _ _ h (kS_st hq)
        · cases h
      · rw [hq] at h; cases h
    · cases h
  · rcases ex_bif h with h | h
    · rcases ex_bif h with h | h
      · exact hK _ _ h kS_r
      · cases h
    · cases h
  · cases h
theorem ex2_cl {rc : Nat → Nat → List (Option Value) → List Value → PS → Option PO} {rk rj : Nat → List (Option Value) → List Value → PS → Option PO} {d k nx r1 r2 : Nat} {ls : List (Option Value)} {st : List Value} {σ : PS} {o : PO} (h : clF false rc rk rj d k nx r1 r2 ls st σ = some o)
    (hc : ∀ d' la o', rc d' r1 la [] σ = some o' → kS σ (oS o')) (hk : ∀ t, rk nx ls t σ = some o → kS σ (oS o)) (hj : ∀ pc ls' t σ', rj pc ls' t σ' = some o → kS σ' (oS o)) : kS σ (oS o) := by
  unfold clF at h
  rcases ex_bif h with h | h
  · exact ex_jdk h hk
  · split at h
    · cases h
    · split at h
      · cases h
      · rename_i la t d'
        unfold bkF at h
        split at h
        · cases h
        · rename_i σ' e; exact kS_t (hc _ _ _ e) (hj _ _ _ _ h)
        · rename_i w σ' e; exact kS_t (hc _ _ _ e) (hj _ _ _ _ h)
        · rename_i E σ' e
          split at h
          · cases h; exact hc _ _ _ e
          · exact kS_t (hc _ _ _ e) (hj _ _ _ _ h)
theorem ex2_thr {σ : PS} {E : Nat} {st : List Value} {o : PO} (h : (bif false then none else match st with | [] => some (.inr (E, thF σ)) | _ => none) = some o) : kS σ (oS o) := by
  cases st
  · cases h; exact ⟨rfl, rfl, rfl, rfl⟩
  · cases h
theorem ex2_nw {σ : PS} {ci N : Nat} {K : Nat → PS → Option PO} {o : PO} {P : Prop} (h : nwF false σ ci N K = some o) : P := by
  unfold nwF at h
  cases h
theorem ex2_na {σ : PS} {kd : Nat} {n : Int32} {K : Nat → PS → Option PO} {o : PO} {P : Prop} (h : naF false σ kd n K = some o) : P := by
  unfold naF at h
  cases h
set_option maxHeartbeats 4000000 in
theorem run_kS : ∀ (n d k pc : Nat) (ls : List (Option Value)) (st : List Value) (σ : PS) (o : PO), run false n d k pc ls st σ = some o → kS σ (oS o) := by
  intro n
  induction n with
  | zero => intro d k pc ls st σ o h; cases h
  | succ n ih =>
    intro d k pc ls st σ o h
    unfold run stepF at h
    generalize fe k pc = q at h
    obtain ⟨i, nx, r1, r2, r3, v⟩ := q
    dsimp only at h
    rcases ex_bif h with h | h
    · cases h
    cases i <;> dsimp only at h <;> first
      | exact ih _ _ _ _ _ _ _ h
      | exact ex_ar h fun t ht => ih _ _ _ _ _ _ _ ht
      | exact ex_br h (fun t ht => ih _ _ _ _ _ _ _ ht) (fun t ht => ih _ _ _ _ _ _ _ ht)
      | exact ex_ld h fun t ht => ih _ _ _ _ _ _ _ ht
      | exact ex2_st h fun t σ' ht hx => kS_t hx (ih _ _ _ _ _ _ _ ht)
      | exact ex2_cl h (fun d' la o' ho => ih _ _ _ _ _ _ _ ho) (fun t ht => ih _ _ _ _ _ _ _ ht) (fun pc' ls' t σ' ht => ih _ _ _ _ _ _ _ ht)
      | (split at h <;> first | exact ih _ _ _ _ _ _ _ h | (cases h; done) | (cases h; exact kS_r) | (split at h <;> first | exact ih _ _ _ _ _ _ _ h | (cases h; done)))
      | (split at h <;> first | (cases h; done) | (rcases ex_bif h with h | h <;> first | exact ih _ _ _ _ _ _ _ h | (cases h; done) | (cases h; exact kS_r) | exact ex_gf h (fun t ht => ih _ _ _ _ _ _ _ ht) | exact ex2_pf h (fun σ' ht hx => kS_t hx (ih _ _ _ _ _ _ _ ht)) | (rcases ex_bif h with h | h <;> first | (cases h; done) | (cases h; exact kS_r))))
      | (rcases ex_bif h with h | h
         · exact ex2_thr h
         · exact ex2_nw h)
      | (split at h
         · exact ex2_na h
         · cases h)
theorem Run_kS {d k pc : Nat} {ls : List (Option Value)} {st : List Value} {σ : PS} {o : PO} (h : Run false d k pc ls st σ = some o) : kS σ (oS o) := by
  obtain ⟨n, hn⟩ := Run_iff.mp h
  exact run_kS n _ _ _ _ _ _ _ hn
