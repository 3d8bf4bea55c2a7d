/-! THE WORLD: the pure state on the heap -/
def adr (G : Nat × Nat × Nat × Nat) (i : Nat) : Nat := if i < 500 then G.1 + i else if i = 999 then G.2.1 else if i = 1000 then G.2.2.1 else G.2.2.2
def cz (G : Nat × Nat × Nat × Nat) (v : Value) : Value := match v with
  | .ref i => .ref (adr G i)
  | v => v
def fdV (G : Nat × Nat × Nat × Nat) (σ : PS) (o k kd : Nat) : Value := match kd with
  | 1 => .long (FL σ o k)
  | 2 => bif xR (XX σ) o k then .ref (adr G (rft o k)) else .null
  | _ => .int (FI σ o k)
def fdL (G : Nat × Nat × Nat × Nat) (σ : PS) (o : Nat) : List Value := (List.range (nfT (objc o))).map (fun k => fdV G σ o k (fkT (objc o) k))
def ceO (G : Nat × Nat × Nat × Nat) (cT : ClassId × ClassId × ClassId) (σ : PS) (o : Nat) : va_E := match (arrk o).1 with
  | 1 => .inl (cT.1, (arrk o).2, .inl (AI σ o))
  | 2 => .inl (cT.2.1, (arrk o).2, .inr (.inl (AL σ o)))
  | 3 => .inl (cT.2.2, (arrk o).2, .inl (AI σ o))
  | _ => .inr (objc o, fdL G σ o)
def wsO (G : Nat × Nat × Nat × Nat) (cT : ClassId × ClassId × ClassId) (σ : PS) : va_W := (List.range (xN (XX σ))).map (fun i => (adr G i, ceO G cT σ i))
set_option maxHeartbeats 4000000 in
theorem objc_big {o : Nat} (h : 146 ≤ o) : objc o = 99 := by
  unfold objc
  simp only [Bool.cond_eq_ite, Nat.ble_eq, Nat.beq_eq]
  repeat' split
  all_goals omega
theorem arrk_big {o : Nat} (h : 146 ≤ o) : (arrk o).1 = 0 := by
  have hb : Nat.beq o 145 = false := by
    cases e : Nat.beq o 145 with
    | false => rfl
    | true => have := Nat.eq_of_beq_eq_true e; omega
  unfold arrk
  rw [Nat.ble_eq_true_of_le (show 77 ≤ o by omega)]
  dsimp only [cond]
  rw [Nat.ble_eq_true_of_le (show 112 ≤ o by omega)]
  dsimp only [cond]
  rw [Nat.ble_eq_true_of_le (show 129 ≤ o by omega)]
  dsimp only [cond]
  rw [Nat.ble_eq_true_of_le (show 137 ≤ o by omega)]
  dsimp only [cond]
  rw [Nat.ble_eq_true_of_le (show 141 ≤ o by omega)]
  dsimp only [cond]
  rw [Nat.ble_eq_true_of_le (show 143 ≤ o by omega)]
  dsimp only [cond]
  rw [Nat.ble_eq_true_of_le (show 144 ≤ o by omega)]
  dsimp only [cond]
  rw [Nat.ble_eq_true_of_le (show 145 ≤ o by omega)]
  dsimp only [cond]
  rw [hb]
theorem tab_obj : (List.range 146).all (fun o => Nat.beq (objc o) 99 || (Nat.beq (arrk o).1 0 && (Nat.ble (objc o + 1) 13))) = true := by decide +kernel
theorem tab_arr : (List.range 146).all (fun o => (Nat.ble (arrk o).1 3) && (Nat.beq (arrk o).1 0 || (Nat.beq (objc o) 99 && Nat.ble (arrk o).2 10000))) = true := by decide +kernel
theorem objc_obj {o : Nat} (h : objc o < 99) : o < 146 ∧ (arrk o).1 = 0 ∧ objc o < 13 := by
  have ho : o < 146 := by
    rcases Nat.lt_or_ge o 146 with q | q
    · exact q
    · rw [objc_big q] at h; omega
  have := List.all_eq_true.mp tab_obj o (List.mem_range.mpr ho)
  simp only [Bool.or_eq_true, Bool.and_eq_true, Nat.beq_eq, Nat.ble_eq] at this
  omega
theorem arrk_arr {o : Nat} (h : (arrk o).1 ≠ 0) : o < 146 ∧ objc o = 99 ∧ (arrk o).2 ≤ 10000 ∧ (arrk o).1 ≤ 3 := by
  have ho : o < 146 := by
    rcases Nat.lt_or_ge o 146 with q | q
    · exact q
    · exact absurd (arrk_big q) h
  have := List.all_eq_true.mp tab_arr o (List.mem_range.mpr ho)
  simp only [Bool.or_eq_true, Bool.and_eq_true, Nat.beq_eq, Nat.ble_eq] at this
  omega
theorem cN_at {c : Nat} (h : c < 13) : vwC[c]? = some (cN c) ∧ (cN c).2.2 = nfT c := by
  have h1 : (List.range 13).all (fun c => Nat.beq (cN c).2.2 (nfT c)) = true := by decide +kernel
  have h2 := List.all_eq_true.mp h1 c (List.mem_range.mpr h)
  refine ⟨?_, Nat.eq_of_beq_eq_true h2⟩
  unfold cN
  rw [List.getD_eq_getElem?_getD]
  rw [List.getElem?_eq_getElem (show c < vwC.length from h)]
  rfl
section WORLD
variable {G : Nat × Nat × Nat × Nat} {cT : ClassId × ClassId × ClassId}
theorem adr_in {i : Nat} (h : i < 146) : adr G i = G.1 + i := if_pos (by omega)
theorem wsO_len {σ : PS} : (wsO G cT σ).length = xN (XX σ) := by simp [wsO]
theorem wsO_at {σ : PS} {o : Nat} (h : o < xN (XX σ)) : (wsO G cT σ)[o]? = some (adr G o, ceO G cT σ o) := by
  simp [wsO, h]
theorem wsO_in {σ : PS} {o : Nat} {q : Nat × va_E} (h : (wsO G cT σ)[o]? = some q) : o < xN (XX σ) ∧ q = (adr G o, ceO G cT σ o) := by
  have ho : o < (wsO G cT σ).length := (List.getElem?_eq_some_iff.mp h).1
  rw [wsO_len] at ho
  rw [wsO_at ho] at h
  exact ⟨ho, (Option.some.inj h).symm⟩
theorem wsO_D {σ : PS} (h : xN (XX σ) ≤ 146) : va_D (fun q : Nat => G.1 ≤ q) (wsO G cT σ) := by
  refine ⟨fun i j p q hi hj e => ?_, fun k q hk => ?_⟩
  · obtain ⟨h1, rfl⟩ := wsO_in hi
    obtain ⟨h2, rfl⟩ := wsO_in hj
    rw [adr_in (by omega), adr_in (by omega)] at e
    omega
  · obtain ⟨h1, rfl⟩ := wsO_in hk
    show G.1 ≤ adr G k
    rw [adr_in (by omega)]
    omega
theorem fdL_len {σ : PS} {o : Nat} : (fdL G σ o).length = nfT (objc o) := by simp [fdL]
theorem fdL_at {σ : PS} {o k : Nat} (h : k < nfT (objc o)) : (fdL G σ o)[k]? = some (fdV G σ o k (fkT (objc o) k)) := by simp [fdL, h]
theorem ceO_obj {σ : PS} {o : Nat} (h : objc o < 99) : ceO G cT σ o = .inr (objc o, fdL G σ o) := by
  unfold ceO
  rw [(objc_obj h).2.1]
  rfl
/-- a world that differs in one cell -/
theorem wsO_set {σ σ' : PS} {o : Nat} {e : va_E} (hn : xN (XX σ') = xN (XX σ)) (ho : o < xN (XX σ)) (he : ceO G cT σ' o = e) (hne : ∀ i, i ≠ o → ceO G cT σ' i = ceO G cT σ i) : wsO G cT σ' = (wsO G cT σ).set o (adr G o, e) := by
  apply List.ext_getElem?
  intro i
  by_cases hi : i < xN (XX σ)
  · rw [wsO_at (by rw [hn]; exact hi)]
    by_cases h : i = o
    · subst h
      rw [List.getElem?_set_self (by rw [wsO_len]; exact hi), he]
    · rw [List.getElem?_set_ne (Ne.symm h), wsO_at hi, hne i h]
  · rw [List.getElem?_eq_none (by rw [wsO_len, hn]; omega), List.getElem?_eq_none (by rw [List.length_set, wsO_len]; omega)]
theorem wsO_app {σ σ' : PS} {e : va_E} (hn : xN (XX σ') = xN (XX σ) + 1) (he : ceO G cT σ' (xN (XX σ)) = e) (hne : ∀ i, i < xN (XX σ) → ceO G cT σ' i = ceO G cT σ i) : wsO G cT σ' = wsO G cT σ ++ [(adr G (xN (XX σ)), e)] := by
  unfold wsO
  rw [hn, List.range_succ, List.map_append]
  congr 1
  · apply List.map_congr_left
    intro i hi
    rw [hne i (List.mem_range.mp hi)]
  · rw [List.map_cons, he]; rfl
theorem ceO_fld {σ σ' : PS} {o k : Nat} {v : Value} (h : objc o < 99) (hk : k < nfT (objc o)) (hv : fdV G σ' o k (fkT (objc o) k) = v) (hne : ∀ k', k' ≠ k → fdV G σ' o k' (fkT (objc o) k') = fdV G σ o k' (fkT (objc o) k')) : ceO G cT σ' o = .inr (objc o, (fdL G σ o).set k v) := by
  rw [ceO_obj h]
  congr 2
  apply List.ext_getElem?
  intro i
  by_cases hi : i < nfT (objc o)
  · rw [fdL_at hi]
    by_cases e : i = k
    · subst e
      rw [List.getElem?_set_self (by rw [fdL_len]; exact hi), hv]
    · rw [List.getElem?_set_ne (Ne.symm e), fdL_at hi, hne i e]
  · rw [List.getElem?_eq_none (by rw [fdL_len]; omega), List.getElem?_eq_none (by rw [List.length_set, fdL_len]; omega)]
theorem ceO_same {σ σ' : PS} {i : Nat} (hA : AI σ' i = AI σ i) (hL : AL σ' i = AL σ i) (hf : ∀ k, fdV G σ' i k (fkT (objc i) k) = fdV G σ i k (fkT (objc i) k)) : ceO G cT σ' i = ceO G cT σ i := by
  have e : fdL G σ' i = fdL G σ i := by
    unfold fdL
    exact List.map_congr_left fun k _ => hf k
  unfold ceO
  rw [hA, hL, e]
theorem u2_s {α : Type} {f : Nat → Nat → α} {o k : Nat} {v : α} : u2 f o k v o k = v := by simp [u2]
theorem u2_o {α : Type} {f : Nat → Nat → α} {o k o' k' : Nat} {v : α} (h : o' ≠ o) : u2 f o k v o' k' = f o' k' := by
  have : Nat.beq o' o = false := by
    cases e : Nat.beq o' o with
    | false => rfl
    | true => exact absurd (Nat.eq_of_beq_eq_true e) h
  simp [u2, this]
theorem u2_k {α : Type} {f : Nat → Nat → α} {o k o' k' : Nat} {v : α} (h : k' ≠ k) : u2 f o k v o' k' = f o' k' := by
  have : Nat.beq k' k = false := by
    cases e : Nat.beq k' k with
    | false => rfl
    | true => exact absurd (Nat.eq_of_beq_eq_true e) h
  simp [u2, this]
theorem ua_s {f : Nat → Nat → Int32} {o j : Nat} {v : Int32} : ua f o j v o = upd (f o) j v := by
  funext b
  simp [ua, upd]
theorem ua_sL {f : Nat → Nat → Int64} {o j : Nat} {v : Int64} : ua f o j v o = vp_updL (f o) j v := by
  funext b
  simp [ua, vp_updL]
theorem ua_o {α : Type} {f : Nat → Nat → α} {o j o' : Nat} {v : α} (h : o' ≠ o) : ua f o j v o' = f o' := by
  have : Nat.beq o' o = false := by
    cases e : Nat.beq o' o with
    | false => rfl
    | true => exact absurd (Nat.eq_of_beq_eq_true e) h
  funext b
  simp [ua, this]
theorem uo_s {α : Type} {f : Nat → Nat → α} {o k : Nat} {v : α} : uo f o v o k = v := by simp [uo]
theorem uo_o {α : Type} {f : Nat → Nat → α} {o o' : Nat} {v : α} (h : o' ≠ o) : uo f o v o' = f o' := by
  have : Nat.beq o' o = false := by
    cases e : Nat.beq o' o with
    | false => rfl
    | true => exact absurd (Nat.eq_of_beq_eq_true e) h
  funext b
  simp [uo, this]
end WORLD
