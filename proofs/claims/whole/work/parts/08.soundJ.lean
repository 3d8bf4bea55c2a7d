/-! SOUNDNESS, J: the handlers -/
def ctE (ct : Nat) : Nat := bif Nat.beq ct 13 then 1 else bif Nat.beq ct 15 then 2 else bif Nat.beq ct 35 then 4 else bif Nat.beq ct 88 then 3 else 0
def ctP (ct : Nat) : Nat := bif Nat.beq ct 13 then 638 else bif Nat.beq ct 15 then 639 else bif Nat.beq ct 35 then 999 else 1291
/-- a handler's row: the first that names the class -/
def hnR (H E : Nat) : List (Nat × Nat × Nat × Nat) → Bool
  | [] => Nat.beq H 0
  | x :: t => Nat.beq x.1 0 && (Nat.ble 1 (ctE x.2.2.2) && (bif Nat.beq (ctE x.2.2.2) E then Nat.beq H x.2.2.1 && Nat.ble 1 H else hnR H E t))
theorem hn_1 : (List.range 307).all (fun k => hnR (hnd k 1) 1 (m_hh k) && (hnR (hnd k 2) 2 (m_hh k) && (hnR (hnd k 3) 3 (m_hh k) && hnR (hnd k 4) 4 (m_hh k)))) = true := by decide +kernel
/-- a call lies within all the ranges -/
def hcv (k pc : Nat) : Bool := match (fkk k pc).1 with
  | .invokevirtual _ => (m_hh k).all (fun x => Nat.ble (pc + 1) x.2.1)
  | .invokestatic _ => (m_hh k).all (fun x => Nat.ble (pc + 1) x.2.1)
  | .invokespecial _ => (m_hh k).all (fun x => Nat.ble (pc + 1) x.2.1)
  | _ => true
theorem hn_2 : (List.range 307).all (fun k => match m_hh k with | [] => true | _ => (List.range (msz k)).all (fun pc => hcv k pc)) = true := by decide +kernel
/-- a handler begins with astore -/
def hst (k H : Nat) : Bool := match (fe k H).1 with
  | .astore_n _ => Nat.ble 1 (fe k H).2.1
  | .astore _ => Nat.ble 1 (fe k H).2.1
  | _ => false
theorem hn_3 : (List.range 307).all (fun k => (m_hh k).all (fun x => hst k x.2.2.1 && Nat.beq (m_ci k) 31)) = true := by decide +kernel
theorem ct_link {k ct : Nat} (hk : k < 307) (hc : m_ci k = 31) (h : 1 ≤ ctE ct) : Cond.classLink (m_own k) ct (excN (ctE ct)) ∈ gw ∧ ct ≠ 0 ∧ ctE ct ≤ 4 := by
  rw [own_ci hk, hc]
  unfold ctE at h ⊢
  cases e1 : Nat.beq ct 13 with
  | true => have := Nat.eq_of_beq_eq_true e1; subst this; exact ⟨gw_C (p := 638) (x := (8, 31, 13, 1, 0)) (by decide +kernel) (Nat.le_of_ble_eq_true rfl) rfl, by decide, by decide⟩
  | false =>
    cases e2 : Nat.beq ct 15 with
    | true => have := Nat.eq_of_beq_eq_true e2; subst this; exact ⟨gw_C (p := 639) (x := (8, 31, 15, 2, 0)) (by decide +kernel) (Nat.le_of_ble_eq_true rfl) rfl, by decide, by decide⟩
    | false =>
      cases e3 : Nat.beq ct 35 with
      | true => have := Nat.eq_of_beq_eq_true e3; subst this; exact ⟨gw_C (p := 999) (x := (8, 31, 35, 4, 0)) (by decide +kernel) (Nat.le_of_ble_eq_true rfl) rfl, by decide, by decide⟩
      | false =>
        cases e4 : Nat.beq ct 88 with
        | true => have := Nat.eq_of_beq_eq_true e4; subst this; exact ⟨gw_C (p := 1291) (x := (8, 31, 88, 3, 0)) (by decide +kernel) (Nat.le_of_ble_eq_true rfl) rfl, by decide, by decide⟩
        | false => rw [e1, e2, e3, e4] at h; exact absurd h (by decide)
theorem hnR_at {H E : Nat} : ∀ {hh : List (Nat × Nat × Nat × Nat)}, hnR H E hh = true → (H = 0 ∧ ∀ x ∈ hh, x.1 = 0 ∧ 1 ≤ ctE x.2.2.2 ∧ ctE x.2.2.2 ≠ E) ∨ ∃ pre x suf, hh = pre ++ x :: suf ∧ (∀ y ∈ pre, y.1 = 0 ∧ 1 ≤ ctE y.2.2.2 ∧ ctE y.2.2.2 ≠ E) ∧ x.1 = 0 ∧ 1 ≤ ctE x.2.2.2 ∧ ctE x.2.2.2 = E ∧ x.2.2.1 = H ∧ 1 ≤ H := by
  intro hh
  induction hh with
  | nil => intro h; exact Or.inl ⟨Nat.eq_of_beq_eq_true h, fun x hx => by cases hx⟩
  | cons x t ih =>
    intro h
    unfold hnR at h
    rw [Bool.and_eq_true] at h
    obtain ⟨h1, h2⟩ := h
    rw [Bool.and_eq_true] at h2
    obtain ⟨h2, h3⟩ := h2
    have h1 := Nat.eq_of_beq_eq_true h1
    have h2 := Nat.le_of_ble_eq_true h2
    cases e : Nat.beq (ctE x.2.2.2) E with
    | true =>
      rw [e] at h3
      have h4 : (Nat.beq H x.2.2.1 && Nat.ble 1 H) = true := h3
      rw [Bool.and_eq_true] at h4
      exact Or.inr ⟨[], x, t, rfl, (fun y hy => by cases hy), h1, h2, Nat.eq_of_beq_eq_true e, (Nat.eq_of_beq_eq_true h4.1).symm, Nat.le_of_ble_eq_true h4.2⟩
    | false =>
      rw [e] at h3
      have h4 : hnR H E t = true := h3
      have hx : x.1 = 0 ∧ 1 ≤ ctE x.2.2.2 ∧ ctE x.2.2.2 ≠ E := ⟨h1, h2, fun q => by rw [q, Nat.beq_refl] at e; cases e⟩
      rcases ih h4 with ⟨g1, g2⟩ | ⟨pre, y, suf, g1, g2, g3⟩
      · exact Or.inl ⟨g1, fun z hz => by
          rcases List.mem_cons.mp hz with rfl | hz
          · exact hx
          · exact g2 z hz⟩
      · exact Or.inr ⟨x :: pre, y, suf, by rw [g1]; rfl, fun z hz => by
          rcases List.mem_cons.mp hz with rfl | hz
          · exact hx
          · exact g2 z hz, g3⟩
theorem cst_1 : (List.range 4).all (fun e => decide (Cond.castable (excN (e + 1)) (excN (e + 1)) ∈ lwB)) = true := by decide +kernel
theorem cst_in {E : Nat} (h1 : 1 ≤ E) (h4 : E ≤ 4) : Cond.castable (excN E) (excN E) ∈ lwB := by
  have h := List.all_eq_true.mp cst_1 (E - 1) (List.mem_range.mpr (by omega))
  rw [show E - 1 + 1 = E by omega] at h
  exact of_decide_eq_true h
section SJ
variable {p : Program} {l : Launch} {e : Env} {R : Room} {s : State} {m : MethodId} {args : Array Value} {below : List Frame} {meth : Method} {c : Code} {H : Heap} {locs : List Loc} {cells slots : Nat} {Q : State → Prop}
theorem hn_pass {k E pc : Nat} {pre : List (Nat × Nat × Nat × Nat)} (hk : k < 307) (hc : m_ci k = 31) (hts : ∀ w ∈ gw, w.before args s = true) (hN : ∀ a b : Nat, 1 ≤ a → a ≤ 4 → 1 ≤ b → b ≤ 4 → a ≠ b → va_Nc (excN a) (excN b) s) (h1 : 1 ≤ E) (h4 : E ≤ 4) (hp : ∀ y ∈ pre, y.1 = 0 ∧ 1 ≤ ctE y.2.2.2 ∧ ctE y.2.2.2 ≠ E) :
    ∀ z ∈ tableOf pre, covers z pc = false ∨ (z.catchType ≠ 0 ∧ ∃ nm : String, (Cond.classLink (m_own k) z.catchType nm).before args s = true ∧ va_Nc (excN E) nm s) := by
  intro z hz
  obtain ⟨y, hy, rfl⟩ := List.mem_map.mp hz
  obtain ⟨-, g2, g3⟩ := hp y hy
  obtain ⟨q1, q2, q3⟩ := ct_link hk hc g2
  exact Or.inr ⟨q2, _, hts _ q1, hN _ _ h1 h4 g2 q3 (fun q => g3 q.symm)⟩
end SJ
