/-! THE PURE PROOFS: the op cheapest -/
section OC
variable {d y m n i p k M nW nD least : Nat} {LS : List LAW} {σ τ υ : PS} {row : Rw} {S : SSt} {oth : Nat → Nat}
noncomputable def anS (C : Nat) (S : SSt) (a3 : Int32) : Int64 := match S with
  | none => -1
  | some (t, r) => if a3 = -1 then lN t else if a3.toNatClampNeg < C then (nI (r a3.toNatClampNeg)).toInt64 else -1
theorem m1L0 : obl (lN 0 ≤ (-1 : Int64)) = false := obl_f (by decide +kernel)
theorem s21_end {C : Nat} {a1 a2 a3 : Int32} (hC : C ≤ 5) (h48 : FI υ 48 0 = nI C) (hB : BsC υ C S) (ha : IN 5 a3) : Run false (d + 1) 21 21 [some (.ref 0), some (.int a1), some (.int a2), some (.int a3)] [] υ = some (.inl (some (.long (anS C S a3)), υ)) := by
  rcases ha with rfl | ⟨k, hk, rfl⟩
  · rw [s21_21, w0m, cond_false]
    cases S with
    | none => have e : FL υ 48 1 = -1 := hB; rw [e]; rfl
    | some x =>
      obtain ⟨t, r⟩ := x
      rw [hB.1]
      have e : anS C (some (t, r)) (-1) = lN t := by
        unfold anS
        exact if_pos rfl
      rw [e]
  · rw [s21_21, oleT (Nat.zero_le _) (by omega), cond_true]
    cases S with
    | none =>
      have e : FL υ 48 1 = -1 := hB
      rw [e, lgLt, m1L, cond_true]; rfl
    | some x =>
      obtain ⟨t, r⟩ := x
      obtain ⟨h1, h2, h3⟩ := hB
      have e : anS C (some (t, r)) (nI k) = if k < C then (nI (r k)).toInt64 else -1 := by
        show (if nI k = -1 then lN t else if (nI k).toNatClampNeg < C then (nI (r (nI k).toNatClampNeg)).toInt64 else -1) = _
        rw [if_neg (nI_m1n (by omega)), nI_clamp (by omega)]
      rw [h1, lgLt, LLt (by omega) (by omega), Nlt (Nat.zero_le _), Bool.not_true, cond_false, h48, e]
      by_cases w : k < C
      · rw [oltT w (by omega), cond_true, inbT (show k < 5 by omega) (by decide), cond_true, nI_clamp (by omega), h3 k w, if_pos w]
      · rw [oltF (by omega) (by omega), cond_false, if_neg w]
theorem s231_end {C : Nat} {a1 a2 a3 : Int32} (hC : C ≤ 5) (h47 : FI υ 85 47 = nI C) (hB : BsM υ C S) (ha : IN 5 a3) : Run false (d + 1) 231 153 [some (.ref 85), some (.int a1), some (.int a2), some (.int a3), some (.int (nI C))] [] υ = some (.inl (some (.long (anS C S a3)), υ)) := by
  rw [s231_153, h47, oleT (Nat.le_refl _) (by omega), cond_true, lgGe]
  cases S with
  | none =>
    have e : FL υ 85 48 = -1 := hB
    rw [e, m1L0, cond_false]; rfl
  | some x =>
    obtain ⟨t, r⟩ := x
    obtain ⟨h1, h2, h3⟩ := hB
    rw [h1, LLb (by omega) (by omega), Nlt (Nat.zero_le _), cond_true]
    rcases ha with rfl | ⟨k, hk, rfl⟩
    · have e : anS C (some (t, r)) (-1) = lN t := by
        unfold anS
        exact if_pos rfl
      rw [wmm, cond_true, e]
    · have e : anS C (some (t, r)) (nI k) = if k < C then (nI (r k)).toInt64 else -1 := by
        show (if nI k = -1 then lN t else if (nI k).toNatClampNeg < C then (nI (r (nI k).toNatClampNeg)).toInt64 else -1) = _
        rw [if_neg (nI_m1n (by omega)), nI_clamp (by omega)]
      rw [wnm (by omega), cond_false, e]
      by_cases w : k < C
      · rw [oltT w (by omega), cond_true, inbT (show k < 5 by omega) (by decide), cond_true, nI_clamp (by omega), h3 k w, if_pos w]
      · rw [oltF (by omega) (by omega), cond_false, if_neg w]
theorem in5 {a : Int32} : (¬ a < -1 ∧ ¬ nI 4 < a) ↔ IN 5 a := in_iff2 (m := 5) (by decide)
theorem in5_le {a : Int32} (h : IN 5 a) : obl (a < (-1 : Int32)) = false ∧ obl (a ≤ nI 4) = true := by
  obtain ⟨h1, h2⟩ := in5.mpr h
  exact ⟨obl_f h1, obl_t (Int32.not_lt.mp h2)⟩
theorem c42_n {a : Int32} (hd : 1 ≤ d) (h : IN 5 a) : Run false d 42 0 [some (.int a), some (.int (-1 : Int32)), some (.int (nI 4))] [] σ = some (.inl (none, σ)) := by
  obtain ⟨d, rfl⟩ := dS hd
  rw [s42_0, (in5_le h).1, cond_false, (in5_le h).2, cond_true]
theorem c42_m {a : Int32} (hd : 1 ≤ d) (h : ¬ IN 5 a) : Run false d 42 0 [some (.int a), some (.int (-1 : Int32)), some (.int (nI 4))] [] σ = some (.inr (1, thF σ)) := by
  obtain ⟨d, rfl⟩ := dS hd
  rw [s42_0]
  by_cases w : a < -1
  · rw [obl_t w, cond_true]
  · by_cases v : nI 4 < a
    · rw [obl_f w, cond_false, obl_f (Int32.not_le.mpr v), cond_false]
    · exact absurd (in5.mp ⟨w, v⟩) h
set_option maxHeartbeats 1000000 in
theorem op_cheapest (hI : Inv σ) (a1 a2 a3 : Int32) : OpD 64 (fun d σ => Run false d 21 0 [some (.ref 0), some (.int a1), some (.int a2), some (.int a3)] [] σ) (fun d σ => Run false d 231 0 [some (.ref 85), some (.int a1), some (.int a2), some (.int a3), none] [] σ) σ isL (fun E => if E = 4 then 1 else if E = 1 then 2 else 0) := by
  have hI0 := hI
  obtain ⟨⟨⟨nW, hW, eW, eWc⟩, ⟨nM, hM, eM, eMc⟩, eTr, eIs⟩, hT, hP, hD, hS, hO, hF, hMM, hB, LS, hIL⟩ := hI
  by_cases h0 : IX nM a1
  case neg =>
    refine opD_of (opE_of hI0 4 1 (.long (lN 0)) ⟨_, rfl⟩ (by decide) rfl (by decide) (fun d => ?_) (fun d => ?_)) (by decide)
    · show Run false (d + 39 + 1) 21 0 _ [] σ = _
      rw [s21_0, c48_f (by omega) eMc h0 (by omega), aft_x rfl]
    · show Run false (d + 39 + 1) 231 0 _ [] (thF σ) = _
      rw [s231_0, c206_f (by omega) (show FI (wFI (thF σ) 85 0 (nI 0)) 85 29 = nI nM from eM) FI_q h0 (by omega), aft_v, s231_10, z00, cond_true]
  by_cases h1 : IR 0 40 a2
  case neg =>
    refine opD_of (opE_of hI0 1 2 (.long (lN 0)) ⟨_, rfl⟩ (by decide) rfl (by decide) (fun d => ?_) (fun d => ?_)) (by decide)
    · show Run false (d + 39 + 1) 21 0 _ [] σ = _
      rw [s21_0, c48_t (by omega) eMc h0 (by omega), aft_n, s21_5, c43_f (by omega) h1, aft_x rfl]
    · show Run false (d + 39 + 1) 231 0 _ [] (thF σ) = _
      rw [s231_0, c206_t (by omega) (show FI (wFI (thF σ) 85 0 (nI 0)) 85 29 = nI nM from eM) FI_q h0 (by omega), aft_v, s231_10, z10, cond_false, c170_f (by omega) h1, aft_v, s231_18, z00, cond_true, c165_f (by omega) FI_q nI_20, aft_v, s231_39, z00, cond_true]
  by_cases h2 : IN 5 a3
  case neg =>
    refine opD_of (opE_of hI0 1 2 (.long (lN 0)) ⟨_, rfl⟩ (by decide) rfl (by decide) (fun d => ?_) (fun d => ?_)) (by decide)
    · show Run false (d + 39 + 1) 21 0 _ [] σ = _
      rw [s21_0, c48_t (by omega) eMc h0 (by omega), aft_n, s21_5, c43_t (by omega) h1, aft_n, s21_9, c42_m (by omega) h2, aft_x rfl]
    · show Run false (d + 39 + 1) 231 0 _ [] (thF σ) = _
      rw [s231_0, c206_t (by omega) (show FI (wFI (thF σ) 85 0 (nI 0)) 85 29 = nI nM from eM) FI_q h0 (by omega), aft_v, s231_10, z10, cond_false, c170_t (by omega) h1, aft_v, s231_18, z10, cond_false, c166_f (by omega) (fun x => h2 (in5.mp x)), aft_v, s231_27, z00, cond_true, c165_f (by omega) FI_q nI_20, aft_v, s231_39, z00, cond_true]
  obtain ⟨m, hm, rfl⟩ := id h0
  obtain ⟨y, -, hy, rfl⟩ := id h1
  obtain ⟨⟨n, hn2, en, enc, -⟩, -⟩ := id hP
  obtain ⟨nD, hD2, eD, eDc, -⟩ := id hD
  obtain ⟨-, ⟨nJ, hJ, eJ, eJc, -⟩, -⟩ := id hS
  have hC := IL_C hIL
  have hM' := IL_M hIL eIs
  have hb : ∀ m s, dcN σ y (nI nW) nD m s ≤ 10000000 := fun m s => (dcN_e hD eD hD2).2
  have hO9 : ∀ s, (fun s => sumN (fun o => dcN σ y (nI nW) nD o s) nM - dcN σ y (nI nW) nD m s) s ≤ 90000000 := fun s => oth_b hb hm hM
  have hl := num_any (k := 5) (d := 0) (atC_ok (clF_C (k := 5) (s := 0) (y := y) hC)) (by decide)
  have hC5 : ChN σ m n ≤ 5 := chL_5 n
  intro d e hd he
  obtain ⟨d, rfl⟩ : ∃ z, d = z + 2 := ⟨d - 2, by omega⟩
  obtain ⟨e, rfl⟩ : ∃ z, e = z + 2 := ⟨e - 2, by omega⟩
  -- the class
  obtain ⟨υ, g1, g2⟩ := c60_lay (d := d) (nW := nW) (nD := nD) (M := nM) (nJ := nJ) (by omega) hy hC hP en enc hn2 hm hD eDc hD2 eD hS eJc hJ eMc hM eWc
  obtain ⟨p1, p2, p3, p4, p5, p6⟩ := g1
  obtain ⟨υ2, q1, q2, q3, q4⟩ := c63 (σ := σ) (LS := LS) (y := y) (m := m) (n := n) hC hP en hn2 hy hl hO9 (ChN σ m n) 0 (fun _ => 0) none υ d (Nat.zero_add _) (by omega) ⟨p1, p3, p4⟩ ⟨fun j hj => absurd hj (Nat.not_lt_zero j), fun s hs j hj => by
    have : j = 0 := by omega
    subst this
    rw [Nat.mul_zero, Nat.zero_add]; exact p5 s hs, fun j hj => by
    have : j = 0 := by omega
    subst this
    exact p6⟩ p2 (fun j hj => absurd hj (Nat.not_lt_zero j))
  have q4' : Run false d 63 0 [some (.ref 0), some (.int (nI 0)), some (.long (lN 0)), none, none, none] [] υ = some (.inl (none, υ2)) := q4
  have pC : Run false (d + 1 + 1) 21 0 [some (.ref 0), some (.int (nI m)), some (.int (nI y)), some (.int a3)] [] σ = some (.inl (some (.long (anS (ChN σ m n) (srch (mkX σ m n) (bnX σ LS y m n) (toX σ LS y m n (numV (clL LS 5 0 y) 0) (fun s => sumN (fun o => dcN σ y (nI nW) nD o s) nM - dcN σ y (nI nW) nD m s)) (ChN σ m n) 0 (fun _ => 0) none) a3)), υ2)) := by
    rw [s21_0, c48_t (by omega) eMc h0 (by omega), aft_n, s21_5, c43_t (by omega) h1, aft_n, s21_9, c42_n (by omega) h2, aft_n, s21_15, g2, q4', aft_n, s60_117, aft_n, s21_end hC5 q1.2.1 q3 h2]
  have oc : Off σ υ2 := q1.1.1
  refine Or.inl ⟨_, υ2, ⟨_, rfl⟩, pC, fun z => ?_⟩
  -- the model
  have hIρ : Inv (wFI (wAL υ2 145 0 z) 85 0 (nI 0)) := Inv_tn (Inv_o (Inv_off oc hI0))
  have hE : EqP σ (wFI (wAL υ2 145 0 z) 85 0 (nI 0)) := fun o a b => by
    show AI υ2 o = AI σ o
    have : o = 97 ∨ o = 98 ∨ o = 99 ∨ o = 100 ∨ o = 101 ∨ o = 102 ∨ o = 103 ∨ o = 104 := by omega
    exact offA oc o (by rcases this with rfl | rfl | rfl | rfl | rfl | rfl | rfl | rfl <;> rfl)
  have hPρ : IP (wFI (wAL υ2 145 0 z) 85 0 (nI 0)) := hIρ.2.2.1
  have hDρ : ID (wFI (wAL υ2 145 0 z) 85 0 (nI 0)) := hIρ.2.2.2.1
  have hMρ : LM LS none (wFI (wAL υ2 145 0 z) 85 0 (nI 0)) := (LM_off oc hM' : LM LS none υ2)
  have hCρ : LC LS (wFI (wAL υ2 145 0 z) 85 0 (nI 0)) := (LC_off oc hC : LC LS υ2)
  have f85 : ∀ k, scF 85 k = false → k ≠ 0 → FI (wFI (wAL υ2 145 0 z) 85 0 (nI 0)) 85 k = FI σ 85 k := fun k hk h0 => by
    rw [FI_n (by omega), FI_la]; exact offF oc 85 k hk
  have edc : dcN (wFI (wAL υ2 145 0 z) 85 0 (nI 0)) y (nI nW) nD = dcN σ y (nI nW) nD := dcN_z.trans (dcN_off' oc)
  obtain ⟨j', τ1, l1, l2, l3, l4, l5⟩ := m231_52 (σ := wFI (wAL υ2 145 0 z) 85 0 (nI 0)) (d := e + 1) (y := y) (m := m) (n := n) (a3 := a3) hPρ ((f85 30 rfl (by decide)).trans en) hn2 n 0 (wFI (wFI (wAL υ2 145 0 z) 85 0 (nI 0)) 85 47 (nI 0)) rfl (Nat.zero_le _) (frP_fi frP_r (Or.inr ⟨rfl, by omega⟩)) (fun p => rfl) FI_q (fun i hi => absurd hi (Nat.not_lt_zero i))
  have s0 : StM (wFI (wAL υ2 145 0 z) 85 0 (nI 0)) (wFI (wFL τ1 85 48 (-1)) 85 45 (nI m)) m n := by
    refine ⟨frP_fi (frP_fl l1 (Or.inr ⟨rfl, by omega⟩) (by decide)) (Or.inr ⟨rfl, by omega⟩), ?_, FI_q, l4, fun p _ => l2 p, fun i hi => ?_⟩
    · rw [FI_n (by omega), FI_fl]; exact l3
    · obtain ⟨k, hk, ek⟩ := mk5 hPρ hn2 _ (pkX_lt hi).1
      exact ⟨k, hk, (l2 _).trans ek⟩
  obtain ⟨τ2, t1, t2, t3, t4⟩ := m230 (nW := nW) (nD := nD) (M := nM) hMρ hCρ hPρ hDρ ((f85 39 rfl (by decide)).trans eD) hD2 ((f85 30 rfl (by decide)).trans en) hn2 hy hm ((f85 29 rfl (by decide)).trans eM) hM ((f85 1 rfl (by decide)).trans eW) (ChN (wFI (wAL υ2 145 0 z) 85 0 (nI 0)) m n) 0 (fun _ => 0) none (wFI (wFL τ1 85 48 (-1)) 85 45 (nI m)) (e + 1) (Nat.zero_add _) (by have : ChN (wFI (wAL υ2 145 0 z) 85 0 (nI 0)) m n ≤ 5 := chL_5 n; omega) s0 (fun j hj => absurd hj (Nat.not_lt_zero j)) (by show FL (wFL τ1 85 48 (-1)) 85 48 = -1; exact FL_q) (fun j hj => absurd hj (Nat.not_lt_zero j))
  rw [mk_e hE, bn_e hE, to_e hE, cN_e hE, edc] at t3
  obtain ⟨τ3, u1, u2, u3, u4, u5⟩ := m231_145 (d := e + 1) (y := y) (a3 := a3) (j := j') ((f85 45 rfl (by decide)).trans eTr) hn2 t1
  rw [cN_e hE] at u2 u5
  have bB : BsM τ3 (ChN σ m n) (srch (mkX σ m n) (bnX σ LS y m n) (toX σ LS y m n (numV (clL LS 5 0 y) 0) (fun s => sumN (fun o => dcN σ y (nI nW) nD o s) nM - dcN σ y (nI nW) nD m s)) (ChN σ m n) 0 (fun _ => 0) none) := by
    revert t3
    generalize srch (mkX σ m n) (bnX σ LS y m n) (toX σ LS y m n (numV (clL LS 5 0 y) 0) (fun s => sumN (fun o => dcN σ y (nI nW) nD o s) nM - dcN σ y (nI nW) nD m s)) (ChN σ m n) 0 (fun _ => 0) none = S'
    intro t3
    cases S' with
    | none => exact u3.trans t3
    | some x => exact ⟨u3.trans t3.1, t3.2.1, fun j hj => (u4 j).trans (t3.2.2 j hj)⟩
  have k2 := Kp_off u1
  refine ⟨τ3, ?_, Inv_off u1 hIρ, ?_, ?_, Kp_eq ?_ ?_⟩
  · show Run false (e + 1 + 1) 231 0 _ [] (wAL υ2 145 0 z) = _
    have e29 : FI (wFI (wAL υ2 145 0 z) 85 0 (nI 0)) 85 29 = nI nM := (f85 29 rfl (by decide)).trans eM
    rw [s231_0, c206_t (by omega) e29 FI_q h0 (by omega), aft_v, s231_10, z10, cond_false, c170_t (by omega) h1, aft_v, s231_18, z10, cond_false, c166_t (by omega) (in5.mpr h2), aft_v, s231_27, z10, cond_false, c165_t (by omega) FI_q, aft_v, s231_39, z10, cond_false]
    refine l5.trans ?_
    rw [t4, aft_n, u5, s231_end hC5 u2 bB h2]
  · rw [offB u1 145 rfl]
    show AL (wAL υ2 145 0 z) 145 0 = z
    exact AL_q
  · rw [offF u1 85 0 rfl]; exact FI_q
  · rw [u1.1]; exact oc.1
  · rw [offA u1 999 rfl]; exact offA oc 999 rfl
end OC
