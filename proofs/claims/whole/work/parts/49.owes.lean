/-! THE PURE PROOFS: what a scheme is bound to -/
theorem i64_z {x : Int64} : x + lN 0 = x := by
  show x + 0 = x
  exact Int64.add_zero x
/-- the weight of a scheme in a sort -/
noncomputable def wgN (inn smb : Nat → Int32) (dec : Nat → Nat → Nat) (c : Int32) (s : Nat) : Nat → Nat
  | 0 => 0
  | m + 1 => wgN inn smb dec c s m + (bif obl (inn m = c) then (bif obl (smb m = nI 0) then dec m s else 0) else 0)
theorem wgN_le {inn smb : Nat → Int32} {dec : Nat → Nat → Nat} {c : Int32} {s B : Nat} (h : ∀ m s, dec m s ≤ B) : ∀ n, wgN inn smb dec c s n ≤ n * B := by
  intro n
  induction n with
  | zero => exact Nat.zero_le _
  | succ n ih =>
    rw [Nat.succ_mul]
    refine Nat.add_le_add ih ?_
    cases obl (inn n = c)
    · exact Nat.zero_le _
    · cases obl (smb n = nI 0)
      · exact Nat.zero_le _
      · exact h n s
theorem wgN_b {inn smb : Nat → Int32} {dec : Nat → Nat → Nat} {c : Int32} {s M : Nat} (h : ∀ m s, dec m s ≤ 10000000) (hM : M ≤ 10) : wgN inn smb dec c s M ≤ 5 * 10 ^ 8 := Nat.le_trans (Nat.le_trans (wgN_le h M) (Nat.mul_le_mul_right _ hM)) (by decide)
/-- a maker's weight -/
noncomputable def wmN (smb : Nat → Int32) (dec : Nat → Nat → Nat) (s m : Nat) : Nat := bif obl (smb m = nI 0) then dec m s else 0
theorem wmN_le {smb : Nat → Int32} {dec : Nat → Nat → Nat} {s m : Nat} (h : ∀ m s, dec m s ≤ 10000000) : wmN smb dec s m ≤ 10000000 := by
  unfold wmN
  cases obl (smb m = nI 0)
  · exact Nat.zero_le _
  · exact h m s
/-- the parts of those who are in a scheme -/
noncomputable def ptI (h : Nat → Int64) (inn : Nat → Int32) (c : Int32) : Nat → Int64
  | 0 => lN 0
  | m + 1 => bif obl (inn m = c) then ptI h inn c m + h m else ptI h inn c m
noncomputable def orV (inn smb : Nat → Int32) (dec : Nat → Nat → Nat) (LS : List LAW) (y M nS o : Nat) (c s : Nat) : Int64 := bif Nat.beq (numV (clL LS 7 0 y) 0) 1 then prtN (fun k => wgN inn smb dec (nI k) s M) o nS c else ptI (prtN (wmN smb dec s) o M) inn (nI c) M
theorem ptI_c {h h' : Nat → Int64} {inn : Nat → Int32} {c : Int32} : ∀ n, (∀ k, k < n → h k = h' k) → ptI h inn c n = ptI h' inn c n := by
  intro n
  induction n with
  | zero => intro _; rfl
  | succ n ih =>
    intro q
    unfold ptI
    rw [ih (fun k hk => q k (by omega)), q n (by omega)]
/-- what the class has laid out -/
def CW (σ : PS) (LS : List LAW) (M nS : Nat) (dec : Nat → Nat → Nat) (sm : Nat → Prop) (inn : Nat → Int32) : Prop := VW σ M dec sm inn ∧ LC LS σ ∧ FI σ 0 1 = nI M ∧ FI σ 31 0 = nI nS ∧ M ≤ 10 ∧ nS ≤ 4 ∧ ∀ m s, dec m s ≤ 10000000
/-- what the model finds, whenever it looks -/
def MW (σ : PS) (LS : List LAW) (y : Nat) (k : Int32) (M nS : Nat) (dec : Nat → Nat → Nat) (smb inn : Nat → Int32) : Prop := FI σ 85 29 = nI M ∧ FI σ 85 52 = nI nS ∧ M ≤ 10 ∧ nS ≤ 4 ∧ LM LS none σ ∧ DM σ y k M dec ∧ ∀ τ, Off σ τ → ∀ d, 8 ≤ d → ∀ m, m < M → Run false d 221 0 [some (.ref 85), some (.int (nI m)), some (.int (nI y)), some (.int k), none, none, none] [] τ = some (.inl (some (.int (smb m)), τ)) ∧ Run false d 234 0 [some (.ref 85), some (.int (nI m)), some (.int (nI y)), none, none] [] τ = some (.inl (some (.int (inn m)), τ))
/-- joins alone -/
def IS2 (σ : PS) : Prop := ∃ n, n ≤ 60 ∧ FI σ 85 53 = nI n ∧ FI σ 31 1 = nI n ∧ ∀ j, j < n → AI σ 33 j = AI σ 114 j ∧ IR 0 9 (AI σ 114 j) ∧ AI σ 34 j = AI σ 115 j ∧ IN 4 (AI σ 115 j) ∧ AI σ 35 j = AI σ 116 j ∧ IR 0 40 (AI σ 116 j)
theorem IS2_off {σ τ : PS} (o : Off σ τ) (h : IS2 σ) : IS2 τ := by
  unfold IS2 at h ⊢
  rw [offF o 85 53 rfl, offF o 31 1 rfl, offA o 33 rfl, offA o 34 rfl, offA o 35 rfl, offA o 114 rfl, offA o 115 rfl, offA o 116 rfl]
  exact h
section JJ
variable {d y : Nat} {σ : PS}
theorem c234j {n m : Nat} (hd : 1 ≤ d) (hI : IS2 σ) (hn : FI σ 85 53 = nI n) (hn2 : n ≤ 60) : Run false d 234 0 [some (.ref 85), some (.int (nI m)), some (.int (nI y)), none, none] [] σ = some (.inl (some (.int (inR σ m y n).2), σ)) := by
  obtain ⟨d, rfl⟩ := dS hd
  obtain ⟨n', h1, h2, h3, h4⟩ := hI
  have : n = n' := (nI_eq (by omega) (by omega)).mp (hn.symm.trans h2)
  subst this
  rw [s234_0]
  refine (lpU (f := fun j => Run false (d + 1) 234 5 [some (.ref 85), some (.int (nI m)), some (.int (nI y)), some (.int (ixV (inK σ m y j))), some (.int (nI j))] [] σ) (n := n) (fun j hj => ?_) 0 (Nat.zero_le _)).trans ?_
  · have hk := (inK_R (σ := σ) (m := m) (y := y) j).2
    obtain ⟨-, -, -, -, -, ⟨f, -, f2, f3⟩⟩ := h4 j hj
    rw [s234_5]
    simp (disch := omega) only [hn, oleF, cond_false, inbT, cond_true, nI_clamp, nI_add, inK]
    cases obl (AI σ 114 j = nI m)
    · rfl
    · cases obl (nI y < AI σ 116 j)
      · cases e : inK σ m y j with
        | none =>
          have e1 : obl (ixV none = -1) = true := obl_t rfl
          have e2 : obl (AI σ 116 j < (-1 : Int32)) = false := obl_f (by rw [f3, Int32.lt_iff_toInt_lt, nI_toInt (by omega), show (-1 : Int32).toInt = -1 by decide]; omega)
          rw [e1, e2]; rfl
        | some i =>
          have hi := hk i e
          have e1 : obl (ixV (some i) = -1) = false := obl_f (nI_m1n (by omega))
          rw [e1]
          simp (disch := omega) only [cond_false, cond_true, ixV, inbT, nI_clamp]
          cases obl (AI σ 116 j < AI σ 116 i) <;> rfl
      · rfl
  · have hk := (inK_R (σ := σ) (m := m) (y := y) n)
    rw [s234_5, hn, oleT (Nat.le_refl _) (by omega), cond_true, hk.1]
    cases e : inK σ m y n with
    | none => rw [obl_t (show ixV none = -1 from rfl)]; rfl
    | some i =>
      have hi := hk.2 i e
      rw [obl_f (show ¬ ixV (some i) = -1 from nI_m1n (by omega))]
      show (bif false then _ else (bif inb (nI i) 60 then some (Sum.inl (some (Value.int (AI σ 115 (nI i).toNatClampNeg)), σ)) else none)) = _
      rw [inbT (by omega) (by decide), nI_clamp (by omega)]
      rfl
end JJ
section OW
variable {d y M nS : Nat} {σ : PS} {LS : List LAW} {dec : Nat → Nat → Nat} {sm : Nat → Prop} {inn smb : Nat → Int32} {k : Int32}
theorem CW_pt {τ : PS} (h : CW σ LS M nS dec sm inn) (p : Pt 40 42 σ τ) : CW τ LS M nS dec sm inn := by
  obtain ⟨v, l, e1, e2, r⟩ := h
  refine ⟨?_, LC_off (pt_C p) l, by rw [p.2.1]; exact e1, by rw [p.2.1]; exact e2, r⟩
  unfold VW at v ⊢
  rw [p.2.1, p.2.2.2.1]
  exact v
theorem MW_off {τ : PS} (h : MW σ LS y k M nS dec smb inn) (o : Off σ τ) : MW τ LS y k M nS dec smb inn := by
  obtain ⟨e1, e2, m1, m2, l, x, f⟩ := h
  exact ⟨(offF o 85 29 rfl).trans e1, (offF o 85 52 rfl).trans e2, m1, m2, LM_off o l, DM_off x o, fun υ u => f υ (off_t o u)⟩
theorem MW_of {nJ : Nat} (hM : LM LS none σ) (hX : DM σ y k 10 dec) (hS : IS2 σ) (e53 : FI σ 85 53 = nI nJ) (hJ : nJ ≤ 60) (e29 : FI σ 85 29 = nI M) (hM2 : M ≤ 10) (e52 : FI σ 85 52 = nI nS) (hS2 : nS ≤ 4) (hy : y ≤ 40) : MW σ LS y k M nS dec (fun m => b1 (sumN (dec m) 5 < numV (clL LS 5 0 y) 0)) (fun m => (inR σ m y nJ).2) := by
  refine ⟨e29, e52, hM2, hS2, hM, DM_w hX hM2, fun τ o d hd m hm => ⟨?_, ?_⟩⟩
  · exact c221 (X := none) (by omega) (show m < 10 by omega) hy (DM_off hX o) (LM_off o hM)
  · have := c234j (σ := τ) (d := d) (m := m) (y := y) (by omega) (IS2_off o hS) ((offF o 85 53 rfl).trans e53) hJ
    rw [inR_off o] at this
    exact this
theorem c86 {c : Int32} {s : Nat} (hd : 2 ≤ d) (h : CW σ LS M nS dec sm inn) (hs : s < 5) : Run false d 86 0 [some (.ref 36), some (.int c), some (.int (nI s)), none, none, none] [] σ = some (.inl (some (.long (lN (wgN inn (fun m => b1 (sm m)) dec c s M))), σ)) := by
  obtain ⟨d, rfl⟩ := dS (show 1 ≤ d by omega)
  obtain ⟨⟨v1, v2⟩, -, -, -, hM, -, hb⟩ := h
  rw [s86_0]
  refine (lpU (f := fun j => Run false (d + 1) 86 5 [some (.ref 36), some (.int c), some (.int (nI s)), some (.long (lN (wgN inn (fun m => b1 (sm m)) dec c s j))), none, some (.int (nI j))] [] σ) (n := M) (fun j hj => ?_) 0 (Nat.zero_le _)).trans ?_
  · obtain ⟨w1, w2, w3⟩ := v2 j hj
    have := hb j s
    show _ = Run false (d + 1) 86 5 [some (.ref 36), some (.int c), some (.int (nI s)), some (.long (lN (wgN inn (fun m => b1 (sm m)) dec c s j + (bif obl (inn j = c) then (bif obl (b1 (sm j) = nI 0) then dec j s else 0) else 0)))), none, some (.int (nI (j + 1)))] [] σ
    rw [s86_5, v1, oleF hj (by omega), cond_false, inbT (by omega) (by decide), cond_true, cond_true, nI_clamp (by omega), w3, w2, c83 (by omega) (by omega) hs, aft_v, s86_43, w1 s hs, nI_l (by omega), lN_add, nI_add]
    cases obl (inn j = c)
    · rfl
    · cases obl (b1 (sm j) = nI 0) <;> rfl
  · show Run false (d + 1) 86 5 _ [] σ = _
    rw [s86_5, v1, oleT (Nat.le_refl _) (by omega), cond_true]
theorem c236 {c : Int32} {s : Nat} (hd : 9 ≤ d) (h : MW σ LS y k M nS dec smb inn) (hs : s < 5) : Run false d 236 0 [some (.ref 85), some (.int c), some (.int (nI s)), some (.int (nI y)), some (.int k), none, none, none] [] σ = some (.inl (some (.long (lN (wgN inn smb dec c s M))), σ)) := by
  obtain ⟨d, rfl⟩ := dS (show 1 ≤ d by omega)
  obtain ⟨e1, -, hM, -, -, hX, f⟩ := h
  rw [s236_0]
  refine (lpU (f := fun j => Run false (d + 1) 236 6 [some (.ref 85), some (.int c), some (.int (nI s)), some (.int (nI y)), some (.int k), some (.long (lN (wgN inn smb dec c s j))), none, some (.int (nI j))] [] σ) (n := M) (fun j hj => ?_) 0 (Nat.zero_le _)).trans ?_
  · obtain ⟨f1, f2⟩ := f σ off_r d (by omega) j hj
    have := hX.1 j s
    show _ = Run false (d + 1) 236 6 [some (.ref 85), some (.int c), some (.int (nI s)), some (.int (nI y)), some (.int k), some (.long (lN (wgN inn smb dec c s j + (bif obl (inn j = c) then (bif obl (smb j = nI 0) then dec j s else 0) else 0)))), none, some (.int (nI (j + 1)))] [] σ
    rw [s236_6, e1, oleF hj (by omega), cond_false, f2, aft_v, s236_24, f1, aft_v, s236_37, hX.2 σ off_r d (by omega) j s hj (by omega), aft_v, s236_50, nI_l (by omega), lN_add, lN_add, nI_add]
    cases obl (inn j = c)
    · rfl
    · cases obl (smb j = nI 0) <;> rfl
  · show Run false (d + 1) 236 6 _ [] σ = _
    rw [s236_6, e1, oleT (Nat.le_refl _) (by omega), cond_true]
theorem c88 {c : Int32} {h : Nat → Int64} (hd : 1 ≤ d) (hV : CW σ LS M nS dec sm inn) (hh : ∀ j, j < M → AL σ 41 j = h j) : Run false d 88 0 [some (.ref 36), some (.int c), none, none, none] [] σ = some (.inl (some (.long (ptI h inn c M)), σ)) := by
  obtain ⟨d, rfl⟩ := dS hd
  obtain ⟨⟨v1, v2⟩, -, -, -, hM, -, hb⟩ := hV
  rw [s88_0]
  refine (lpU (f := fun j => Run false (d + 1) 88 5 [some (.ref 36), some (.int c), some (.long (ptI h inn c j)), none, some (.int (nI j))] [] σ) (n := M) (fun j hj => ?_) 0 (Nat.zero_le _)).trans ?_
  · obtain ⟨w1, w2, w3⟩ := v2 j hj
    show _ = Run false (d + 1) 88 5 [some (.ref 36), some (.int c), some (.long (bif obl (inn j = c) then ptI h inn c j + h j else ptI h inn c j)), none, some (.int (nI (j + 1)))] [] σ
    rw [s88_5, v1, oleF hj (by omega), cond_false, inbT (by omega) (by decide), cond_true, cond_true, nI_clamp (by omega), w3, hh j hj, nI_add]
    cases obl (inn j = c) <;> rfl
  · show Run false (d + 1) 88 5 _ [] σ = _
    rw [s88_5, v1, oleT (Nat.le_refl _) (by omega), cond_true]
/-- ORPHANS of a scheme -/
theorem c64 {c s o : Nat} (hd : 4 ≤ d) (hy : y ≤ 40) (h : CW σ LS M nS dec sm inn) (hs : s < 5) (hc : c < nS) (ho : AI σ 84 (s * 41 + y) = nI o) (ho2 : o ≤ 1000000) : ∃ τ, Pt 40 42 σ τ ∧ Run false d 64 0 [some (.ref 0), some (.int (nI c)), some (.int (nI s)), some (.int (nI y)), none, none] [] σ = some (.inl (some (.long (orV inn (fun m => b1 (sm m)) dec LS y M nS o c s)), τ)) := by
  obtain ⟨d, rfl⟩ := dS (show 1 ≤ d by omega)
  have h0 := h
  obtain ⟨⟨v1, v2⟩, hC, e01, e31, hM, hS, hb⟩ := h
  have hl := num_any (k := 7) (d := 0) (atC_ok (clF_C (k := 7) (s := 0) (y := y) hC)) (by decide)
  have k1 : Run false d 100 0 [some (.ref 1), some (.int (nI 217)), some (.int (-1 : Int32)), some (.int (nI y)), some (.int (nI 0)), none] [] σ = some (.inl (some (.int (nI (numV (clL LS 7 0 y) 0))), σ)) := c100 (k := 7) (s := 0) (by omega) (by decide) (by decide) hy hC
  rw [s64_0, nI_mul, nI_add, inbT (by omega) (by decide), cond_true, nI_clamp (by omega), ho, k1, aft_v, s64_26]
  unfold orV
  by_cases q : numV (clL LS 7 0 y) 0 = 1
  · rw [oeqT q, Nbt q, cond_true, cond_true]
    obtain ⟨τ1, ⟨p1, z1⟩, r1⟩ := lpS (P := fun j τ => Pt 40 42 σ τ ∧ ∀ i, i < j → AL τ 40 i = lN (wgN inn (fun m => b1 (sm m)) dec (nI i) s M)) (R := fun j τ => Run false (d + 1) 64 33 [some (.ref 0), some (.int (nI c)), some (.int (nI s)), some (.int (nI y)), some (.int (nI o)), some (.int (nI j))] [] τ) (n := nS) (fun j τ hj hp => by
      refine ⟨wAL τ 40 j (lN (wgN inn (fun m => b1 (sm m)) dec (nI j) s M)), ⟨pt_al hp.1 (by decide) (by decide), fun i hi => ?_⟩, ?_⟩
      · by_cases w : i = j
        · subst w; exact AL_q
        · rw [AL_n (Or.inr w)]; exact hp.2 i (by omega)
      · show Run false (d + 1) 64 33 _ [] τ = _
        rw [s64_33, hp.1.2.1, e31, oleF hj (by omega), cond_false, c86 (by omega) (CW_pt h0 hp.1) hs, aft_v, s64_64, inbT (by omega) (by decide), cond_true, nI_clamp (by omega), nI_add]) 0 σ (Nat.zero_le _) ⟨pt_r, fun i hi => absurd hi (by omega)⟩
    obtain ⟨τ2, p2, z2, r2⟩ := c89 (d := d) (σ := τ1) (n := nS) (all := o) (w := fun i => wgN inn (fun m => b1 (sm m)) dec (nI i) s M) (by omega) (by omega) z1 (by omega) (fun i => wgN_b hb hM)
    refine ⟨τ2, pt_t p1 (pt_w p2 (by decide) (by decide)), r1.trans ?_⟩
    show Run false (d + 1) 64 33 _ [] τ1 = _
    rw [s64_33, p1.2.1, e31, oleT (Nat.le_refl _) (by omega), cond_true, nI_l (by omega), r2, aft_n, s64_88, inbT (by omega) (by decide), cond_true, nI_clamp (by omega), z2 c hc]
  · rw [oeqF q (by omega) (by decide), Nbf q, cond_false, cond_false]
    obtain ⟨τ1, ⟨p1, z1⟩, r1⟩ := lpS (P := fun j τ => Pt 40 42 σ τ ∧ ∀ i, i < j → AL τ 40 i = lN (wmN (fun m => b1 (sm m)) dec s i)) (R := fun j τ => Run false (d + 1) 64 101 [some (.ref 0), some (.int (nI c)), some (.int (nI s)), some (.int (nI y)), some (.int (nI o)), some (.int (nI j))] [] τ) (n := M) (fun j τ hj hp => by
      obtain ⟨⟨-, v2'⟩, -⟩ := CW_pt h0 hp.1
      obtain ⟨w1, w2, w3⟩ := v2' j hj
      have := hb j s
      refine ⟨wAL τ 40 j (lN (wmN (fun m => b1 (sm m)) dec s j)), ⟨pt_al hp.1 (by decide) (by decide), fun i hi => ?_⟩, ?_⟩
      · by_cases w : i = j
        · subst w; exact AL_q
        · rw [AL_n (Or.inr w)]; exact hp.2 i (by omega)
      · show Run false (d + 1) 64 101 _ [] τ = _
        rw [s64_101, hp.1.2.1, e01, oleF hj (by omega), cond_false, inbT (by omega) (by decide), cond_true, cond_true, nI_clamp (by omega), w2, c83 (by omega) (by omega) hs, aft_v, s64_146, inbT (by omega) (by decide), cond_true, nI_clamp (by omega), w1 s hs, nI_l (by omega), nI_add]
        unfold wmN
        cases obl (b1 (sm j) = nI 0) <;> rfl) 0 σ (Nat.zero_le _) ⟨pt_r, fun i hi => absurd hi (by omega)⟩
    obtain ⟨τ2, p2, z2, r2⟩ := c89 (d := d) (σ := τ1) (n := M) (all := o) (w := wmN (fun m => b1 (sm m)) dec s) (by omega) hM z1 (by omega) (fun i => by have := wmN_le (smb := fun m => b1 (sm m)) (s := s) (m := i) hb; omega)
    have p3 := pt_t p1 (pt_w p2 (by decide) (by decide))
    refine ⟨τ2, p3, r1.trans ?_⟩
    show Run false (d + 1) 64 101 _ [] τ1 = _
    rw [s64_101, p1.2.1, e01, oleT (Nat.le_refl _) (by omega), cond_true, nI_l (by omega), r2, aft_n, s64_168, c88 (by omega) (CW_pt h0 p3) z2, aft_v, s64_176]
theorem c238 {c s o : Nat} (hd : 10 ≤ d) (hy : y ≤ 40) (h : MW σ LS y k M nS dec smb inn) (hs : s < 5) (hc : c < nS) (ho : AI σ 117 (41 * s + y) = nI o) (ho2 : o ≤ 1000000) : ∃ τ, Pt 119 121 σ τ ∧ Run false d 238 0 [some (.ref 85), some (.int (nI c)), some (.int (nI s)), some (.int (nI y)), some (.int k), none, none, none, none, none] [] σ = some (.inl (some (.long (orV inn smb dec LS y M nS o c s)), τ)) := by
  obtain ⟨d, rfl⟩ := dS (show 1 ≤ d by omega)
  have h0 := h
  obtain ⟨e29, e52, hM, hS, hL, hX, f⟩ := h
  have hb := hX.1
  have hl := num_any (k := 7) (d := 0) (atM_ok (clX_M (k := 7) (s := 0) (y := y) hL)) (by decide)
  have hl2 : numV (clL LS 7 0 y) 0 ≤ 9999 := hl
  have k1 : Run false d 200 0 [some (.ref 85), some (.int (nI 7)), some (.int (nI 0)), some (.int (nI y)), none] [] σ = some (.inl (some (.int (nI (numV (clL LS 7 0 y) 0))), σ)) := c200 (k := 7) (s := 0) (X := none) (by omega) (by decide) (by decide) hy hL
  rw [s238_0, k1, aft_v, s238_8]
  unfold orV
  by_cases q : numV (clL LS 7 0 y) 0 = 1
  · rw [oeqT q, Nbt q, cond_true, cond_true, z10, cond_false, e52]
    obtain ⟨τ1, ⟨p1, z1⟩, r1⟩ := lpS (P := fun j τ => Pt 119 121 σ τ ∧ ∀ i, i < j → AL τ 119 i = lN (wgN inn smb dec (nI i) s M)) (R := fun j τ => Run false (d + 1) 238 40 [some (.ref 85), some (.int (nI c)), some (.int (nI s)), some (.int (nI y)), some (.int k), some (.int (nI 1)), some (.int (nI nS)), some (.int (nI j)), none, none] [] τ) (n := nS) (fun j τ hj hp => by
      refine ⟨wAL τ 119 j (lN (wgN inn smb dec (nI j) s M)), ⟨pt_al hp.1 (by decide) (by decide), fun i hi => ?_⟩, ?_⟩
      · by_cases w : i = j
        · subst w; exact AL_q
        · rw [AL_n (Or.inr w)]; exact hp.2 i (by omega)
      · show Run false (d + 1) 238 40 _ [] τ = _
        rw [s238_40, oleF hj (by omega), cond_false, z10, cond_false, c236 (by omega) (MW_off h0 (pt_M hp.1)) hs, aft_v, s238_68, inbT (by omega) (by decide), cond_true, nI_clamp (by omega), nI_add]) 0 σ (Nat.zero_le _) ⟨pt_r, fun i hi => absurd hi (by omega)⟩
    obtain ⟨τ2, p2, z2, r2⟩ := c237 (d := d) (σ := τ1) (n := nS) (all := o) (w := fun i => wgN inn smb dec (nI i) s M) (by omega) (by omega) z1 (by omega) (fun i => wgN_b hb hM)
    refine ⟨τ2, pt_t p1 (pt_w p2 (by decide) (by decide)), r1.trans ?_⟩
    show Run false (d + 1) 238 40 _ [] τ1 = _
    rw [s238_40, oleT (Nat.le_refl _) (by omega), cond_true, nI_mul, nI_add, inbT (by omega) (by decide), cond_true, nI_clamp (by omega), p1.2.2.2.1, ho, nI_l (by omega), r2, aft_n, s238_123, z10, cond_false, inbT (by omega) (by decide), cond_true, nI_clamp (by omega), z2 c hc]
  · rw [oeqF q (by omega) (by decide), Nbf q, cond_false, cond_false, z00, cond_true, e29]
    obtain ⟨τ1, ⟨p1, z1⟩, r1⟩ := lpS (P := fun j τ => Pt 119 121 σ τ ∧ ∀ i, i < j → AL τ 119 i = lN (wmN smb dec s i)) (R := fun j τ => Run false (d + 1) 238 40 [some (.ref 85), some (.int (nI c)), some (.int (nI s)), some (.int (nI y)), some (.int k), some (.int (nI 0)), some (.int (nI M)), some (.int (nI j)), none, none] [] τ) (n := M) (fun j τ hj hp => by
      have oj := pt_M hp.1
      obtain ⟨f1, f2⟩ := f τ oj d (by omega) j hj
      have := hb j s
      refine ⟨wAL τ 119 j (lN (wmN smb dec s j)), ⟨pt_al hp.1 (by decide) (by decide), fun i hi => ?_⟩, ?_⟩
      · by_cases w : i = j
        · subst w; exact AL_q
        · rw [AL_n (Or.inr w)]; exact hp.2 i (by omega)
      · show Run false (d + 1) 238 40 _ [] τ = _
        rw [s238_40, oleF hj (by omega), cond_false, z00, cond_true, f1, aft_v, s238_80, hX.2 τ oj d (by omega) j s hj (by omega), aft_v, s238_97, inbT (by omega) (by decide), cond_true, cond_true, nI_clamp (by omega), nI_l (by omega), nI_add]
        unfold wmN
        cases obl (smb j = nI 0) <;> rfl) 0 σ (Nat.zero_le _) ⟨pt_r, fun i hi => absurd hi (by omega)⟩
    obtain ⟨τ2, p2, z2, r2⟩ := c237 (d := d) (σ := τ1) (n := M) (all := o) (w := wmN smb dec s) (by omega) hM z1 (by omega) (fun i => by have := wmN_le (smb := smb) (s := s) (m := i) hb; omega)
    have p3 := pt_t p1 (pt_w p2 (by decide) (by decide))
    have o3 := pt_M p3
    refine ⟨τ2, p3, r1.trans ?_⟩
    show Run false (d + 1) 238 40 _ [] τ1 = _
    rw [s238_40, oleT (Nat.le_refl _) (by omega), cond_true, nI_mul, nI_add, inbT (by omega) (by decide), cond_true, nI_clamp (by omega), p1.2.2.2.1, ho, nI_l (by omega), r2, aft_n, s238_123, z00, cond_true]
    refine (lpU (f := fun j => Run false (d + 1) 238 141 [some (.ref 85), some (.int (nI c)), some (.int (nI s)), some (.int (nI y)), some (.int k), some (.int (nI 0)), some (.int (nI M)), some (.long (ptI (prtN (wmN smb dec s) o M) inn (nI c) j)), none, some (.int (nI j))] [] τ2) (n := M) (fun j hj => ?_) 0 (Nat.zero_le _)).trans ?_
    · obtain ⟨f1, f2⟩ := f τ2 o3 d (by omega) j hj
      show _ = Run false (d + 1) 238 141 [some (.ref 85), some (.int (nI c)), some (.int (nI s)), some (.int (nI y)), some (.int k), some (.int (nI 0)), some (.int (nI M)), some (.long (bif obl (inn j = nI c) then ptI (prtN (wmN smb dec s) o M) inn (nI c) j + prtN (wmN smb dec s) o M j else ptI (prtN (wmN smb dec s) o M) inn (nI c) j)), none, some (.int (nI (j + 1)))] [] τ2
      rw [s238_141, p3.2.1, e29, oleF hj (by omega), cond_false, f2, aft_v, s238_159, inbT (by omega) (by decide), cond_true, nI_clamp (by omega), z2 j hj, i64_z, nI_add]
      cases obl (inn j = nI c) <;> rfl
    · show Run false (d + 1) 238 141 _ [] τ2 = _
      rw [s238_141, p3.2.1, e29, oleT (Nat.le_refl _) (by omega), cond_true]
/-! BOUND -/
noncomputable def bdV (inn smb : Nat → Int32) (dec : Nat → Nat → Nat) (LS : List LAW) (y M nS o : Nat) (c s : Nat) : Int64 := lN (wgN inn smb dec (nI c) s M) * (nI (numV (clL LS 1 s y) 0)).toInt64 / lN 100 + orV inn smb dec LS y M nS o c s
theorem l100 : obl (lN 100 = lN 0) = false := obl_f (by decide +kernel)
theorem c65 {c s o : Nat} (hd : 5 ≤ d) (hy : y ≤ 40) (h : CW σ LS M nS dec sm inn) (hs : s < 5) (hc : c < nS) (ho : AI σ 84 (s * 41 + y) = nI o) (ho2 : o ≤ 1000000) : ∃ τ, Pt 40 42 σ τ ∧ Run false d 65 0 [some (.ref 0), some (.int (nI c)), some (.int (nI s)), some (.int (nI y)), none, none] [] σ = some (.inl (some (.long (bdV inn (fun m => b1 (sm m)) dec LS y M nS o c s)), τ)) := by
  obtain ⟨d, rfl⟩ := dS (show 1 ≤ d by omega)
  obtain ⟨τ, p, r⟩ := c64 (d := d) (by omega) hy h hs hc ho ho2
  have k1 : Run false d 100 0 [some (.ref 1), some (.int (nI 211)), some (.int (nI s)), some (.int (nI y)), some (.int (nI 0)), none] [] σ = some (.inl (some (.int (nI (numV (clL LS 1 s y) 0))), σ)) := c100 (k := 1) (s := s) (by omega) (by decide) (by omega) hy h.2.1
  refine ⟨τ, p, ?_⟩
  rw [s65_0, k1, aft_v, s65_13, c86 (by omega) h hs, aft_v, s65_25, l100, cond_false, r, aft_v, s65_39]
  rfl
theorem c239 {c s o : Nat} (hd : 11 ≤ d) (hy : y ≤ 40) (h : MW σ LS y k M nS dec smb inn) (hs : s < 5) (hc : c < nS) (ho : AI σ 117 (41 * s + y) = nI o) (ho2 : o ≤ 1000000) : ∃ τ, Pt 119 121 σ τ ∧ Run false d 239 0 [some (.ref 85), some (.int (nI c)), some (.int (nI s)), some (.int (nI y)), some (.int k)] [] σ = some (.inl (some (.long (bdV inn smb dec LS y M nS o c s)), τ)) := by
  obtain ⟨d, rfl⟩ := dS (show 1 ≤ d by omega)
  obtain ⟨τ, p, r⟩ := c238 (d := d) (by omega) hy h hs hc ho ho2
  have k1 : Run false d 200 0 [some (.ref 85), some (.int (nI 1)), some (.int (nI s)), some (.int (nI y)), none] [] σ = some (.inl (some (.int (nI (numV (clL LS 1 s y) 0))), σ)) := c200 (k := 1) (s := s) (X := none) (by omega) (by decide) (by omega) hy h.2.2.2.2.1
  refine ⟨τ, p, ?_⟩
  rw [s239_0, c236 (by omega) h hs, aft_v, s239_9, k1, aft_v, s239_16, l100, cond_false, r, aft_v, s239_31]
  rfl
end OW
