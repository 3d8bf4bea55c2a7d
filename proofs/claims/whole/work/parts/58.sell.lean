/-! THE PURE PROOFS: the set to buy, its price, its sale -/
theorem shV_N {b e : Int64} : ∃ E, E < 2 ^ 63 ∧ shV b e = lN E := by
  unfold shV
  generalize b - e = x
  by_cases q : x < lN 0
  · rw [if_pos q]; exact ⟨0, by decide, rfl⟩
  · rw [if_neg q]
    have h0 : (lN 0).toInt = 0 := lN_toInt (by decide)
    have h1 : 0 ≤ x.toInt := by
      have := Int64.le_iff_toInt_le.mp (Int64.not_lt.mp q)
      rw [h0] at this
      exact this
    have h2 : x.toInt < 2 ^ 63 := Int64.toInt_lt x
    refine ⟨x.toInt.toNat, by omega, Int64.toInt_inj.mp ?_⟩
    rw [show (lN x.toInt.toNat).toInt = (x.toInt.toNat : Int) from lg_ofNat_toInt (by omega)]
    omega
/-- what the class says of a set found -/
def cSet (b : Option Nat) : Int32 := match b with | none => -1 | some Y => nI Y
noncomputable def setR (σ : PS) (n s E : Nat) : Option Nat := bif Nat.beq E 0 then some 0 else dfs (opP σ) (opK σ) (opG σ s) n E n 0 none
section SL
variable {d n s E : Nat} {σ : PS}
theorem setR_lt (hI : IFm σ n) {Y : Nat} (h : setR σ n s E = some Y) : Y < 2 ^ n := by
  unfold setR at h
  cases q : Nat.beq E 0
  · rw [q] at h
    have hk : ∀ j, j < n → 1 ≤ opK σ j := fun j hj => by
      obtain ⟨⟨v, hv0, hv, f4⟩, -⟩ := hI j hj
      unfold opK
      rw [f4, nI_clamp (by omega)]; exact hv0
    have h' : dfs (opP σ) (opK σ) (opG σ s) n E n 0 none = some Y := h
    rw [dfs_md hk] at h'
    exact ((md_ok (2 ^ n)).2 Y h').1
  · rw [q] at h
    have h' : some 0 = some Y := h
    injection h' with h'
    rw [← h']
    exact Nat.pow_pos (by decide)
theorem c119 (hd : n + 2 ≤ d) (hI : IF_ σ) (hq : FI σ 85 75 = nI n) (hqc : FI σ 71 0 = nI n) (hn : n ≤ 12) (hE : E < 2 ^ 63) {τ : PS} (ho : Off σ τ) : ∃ τ', Off σ τ' ∧ Run false d 119 0 [some (.ref 71), some (.int (nI s)), some (.long (lN E)), none] [] τ = some (.inl (some (.int (cSet (dfs (opP σ) (opK σ) (opG σ s) n E n 0 none))), τ')) := by
  obtain ⟨d, rfl⟩ := dS (show 1 ≤ d by omega)
  have r0 : RpC σ (wFI (wFI (wFI τ 71 1 (-1 : Int32)) 71 2 (nI 0)) 71 3 (nI 0)) n none := by
    refine ⟨off_fi (off_fi (off_fi ho rfl) rfl) rfl, ?_⟩
    show FI (wFI (wFI (wFI τ 71 1 (-1 : Int32)) 71 2 (nI 0)) 71 3 (nI 0)) 71 1 = -1
    rw [FI_n (Or.inr (by decide)), FI_n (Or.inr (by decide)), FI_q]
  obtain ⟨τ', q1, q2⟩ := c120 (s := s) hI hq hqc hn hE n 0 none _ d (Nat.le_refl _) (by omega) (Nat.pow_pos (by decide)) r0
  rw [Nat.sub_self, smB_0, smB_0] at q2
  refine ⟨τ', q1.1, ?_⟩
  rw [s119_0, q2, aft_n, s119_25]
  have : FI τ' 71 1 = cSet (dfs (opP σ) (opK σ) (opG σ s) n E n 0 none) := by
    generalize dfs (opP σ) (opK σ) (opG σ s) n E n 0 none = b at q1
    cases b with
    | none => exact q1.2
    | some Y => exact q1.2.2.1
  rw [this]
theorem c116 {Y : Nat} (hd : 1 ≤ d) (hI : IF_ σ) (hq : FI σ 85 75 = nI n) (hqc : FI σ 71 0 = nI n) (hn : n ≤ 12) (hY : Y < 2 ^ n) {τ : PS} (ho : Off σ τ) : Run false d 116 0 [some (.ref 71), some (.int (nI Y)), none, none] [] τ = some (.inl (some (.int (nI (smB (opP σ) n Y))), τ)) := by
  obtain ⟨d, rfl⟩ := dS hd
  have hp12 : (2 : Nat) ^ n ≤ 2 ^ 12 := Nat.pow_le_pow_right (by decide) hn
  have e0 : FI τ 71 0 = nI n := (offF ho 71 0 rfl).trans hqc
  rw [s116_0]
  refine (lpU (f := fun j => Run false (d + 1) 116 4 [some (.ref 71), some (.int (nI Y)), some (.int (nI (smB (opP σ) j Y))), some (.int (nI j))] [] τ) (n := n) (fun j hj => ?_) 0 (Nat.zero_le _)).trans ?_
  · obtain ⟨f1, f2, f3, f4, f5, f6, f7⟩ := bu_at hI hq hn hj
    have b := bt_le (X := Y) (i := j)
    show _ = Run false (d + 1) 116 4 [some (.ref 71), some (.int (nI Y)), some (.int (nI (smB (opP σ) j Y + bt Y j * opP σ j))), some (.int (nI (j + 1)))] [] τ
    rw [s116_4, e0, oleF hj (by omega), cond_false, bit_i (by omega) (by omega), inbT (by omega) (by decide), cond_true, nI_clamp (by omega), offA ho 74 rfl, f4, nI_add, nI_add]
    by_cases q : bt Y j = 0
    · rw [q, oeqF (by decide) (by decide) (by decide), cond_false, Nat.zero_mul]; rfl
    · have q1 : bt Y j = 1 := by omega
      rw [q1, oeqT rfl, cond_true, Nat.one_mul]
  · show Run false (d + 1) 116 4 _ [] τ = _
    rw [s116_4, e0, oleT (Nat.le_refl _) (by omega), cond_true]
/-- the class's sale -/
noncomputable def slC (σ : PS) (Y : Nat) (c y w : Int32) : Nat → PS
  | 0 => σ
  | j + 1 => bif Nat.beq (bt Y j) 0 then slC σ Y c y w j else wAI (wAI (wAI (slC σ Y c y w j) 75 j c) 76 j y) 77 j w
/-- the model's -/
noncomputable def slM (σ : PS) (Y : Nat) (c y w : Int32) : Nat → PS
  | 0 => σ
  | j + 1 => bif Nat.beq (bt Y j) 0 then slM σ Y c y w j else wAI (wAI (wAI (wAI (slM σ Y c y w j) 139 j (nI 1)) 136 j c) 137 j y) 138 j w
theorem slC_g {sF : Nat → Nat → Bool} {sA : Nat → Bool} {Y : Nat} {c y w : Int32} (h1 : sA 75 = true) (h2 : sA 76 = true) (h3 : sA 77 = true) : ∀ j, OffG sF sA σ (slC σ Y c y w j) ∧ FI (slC σ Y c y w j) = FI σ ∧ FL (slC σ Y c y w j) = FL σ ∧ AL (slC σ Y c y w j) = AL σ ∧ XX (slC σ Y c y w j) = XX σ := by
  intro j
  induction j with
  | zero => exact ⟨offG_r, rfl, rfl, rfl, rfl⟩
  | succ j ih =>
    unfold slC
    cases Nat.beq (bt Y j) 0
    · exact ⟨offG_ai h3 (offG_ai h2 (offG_ai h1 ih.1)), ih.2⟩
    · exact ih
theorem slM_g {sF : Nat → Nat → Bool} {sA : Nat → Bool} {Y : Nat} {c y w : Int32} (h1 : sA 139 = true) (h2 : sA 136 = true) (h3 : sA 137 = true) (h4 : sA 138 = true) : ∀ j, OffG sF sA σ (slM σ Y c y w j) ∧ FI (slM σ Y c y w j) = FI σ ∧ FL (slM σ Y c y w j) = FL σ ∧ AL (slM σ Y c y w j) = AL σ ∧ XX (slM σ Y c y w j) = XX σ := by
  intro j
  induction j with
  | zero => exact ⟨offG_r, rfl, rfl, rfl, rfl⟩
  | succ j ih =>
    unfold slM
    cases Nat.beq (bt Y j) 0
    · exact ⟨offG_ai h4 (offG_ai h3 (offG_ai h2 (offG_ai h1 ih.1))), ih.2⟩
    · exact ih
theorem slC_i {Y i : Nat} {c y w : Int32} : ∀ j, AI (slC σ Y c y w j) 75 i = (if i < j ∧ bt Y i ≠ 0 then c else AI σ 75 i) ∧ AI (slC σ Y c y w j) 76 i = (if i < j ∧ bt Y i ≠ 0 then y else AI σ 76 i) ∧ AI (slC σ Y c y w j) 77 i = (if i < j ∧ bt Y i ≠ 0 then w else AI σ 77 i) := by
  intro j
  induction j with
  | zero => rw [if_neg (by omega), if_neg (by omega), if_neg (by omega)]; exact ⟨rfl, rfl, rfl⟩
  | succ j ih =>
    unfold slC
    by_cases q : bt Y j = 0
    · rw [Nbt q, cond_true]
      have e : (i < j + 1 ∧ bt Y i ≠ 0) ↔ (i < j ∧ bt Y i ≠ 0) := by
        constructor
        · rintro ⟨a, b⟩
          refine ⟨Nat.lt_of_le_of_ne (by omega) (fun e => ?_), b⟩
          rw [e] at b; exact b q
        · rintro ⟨a, b⟩; exact ⟨by omega, b⟩
      simp only [e]
      exact ih
    · rw [Nbf q, cond_false]
      by_cases w2 : i = j
      · subst w2
        rw [if_pos ⟨by omega, q⟩, if_pos ⟨by omega, q⟩, if_pos ⟨by omega, q⟩, AI_n (Or.inl (by decide)), AI_n (Or.inl (by decide)), AI_q, AI_n (Or.inl (by decide)), AI_q, AI_q]
        exact ⟨rfl, rfl, rfl⟩
      · have e : (i < j + 1 ∧ bt Y i ≠ 0) ↔ (i < j ∧ bt Y i ≠ 0) := by
          constructor
          · rintro ⟨a, b⟩; exact ⟨by omega, b⟩
          · rintro ⟨a, b⟩; exact ⟨by omega, b⟩
        simp only [e]
        rw [AI_n (Or.inr w2), AI_n (Or.inr w2), AI_n (Or.inr w2), AI_n (Or.inr w2), AI_n (Or.inr w2), AI_n (Or.inr w2), AI_n (Or.inr w2), AI_n (Or.inr w2), AI_n (Or.inr w2)]
        exact ih
theorem slM_i {Y i : Nat} {c y w : Int32} : ∀ j, AI (slM σ Y c y w j) 139 i = (if i < j ∧ bt Y i ≠ 0 then nI 1 else AI σ 139 i) ∧ AI (slM σ Y c y w j) 136 i = (if i < j ∧ bt Y i ≠ 0 then c else AI σ 136 i) ∧ AI (slM σ Y c y w j) 137 i = (if i < j ∧ bt Y i ≠ 0 then y else AI σ 137 i) ∧ AI (slM σ Y c y w j) 138 i = (if i < j ∧ bt Y i ≠ 0 then w else AI σ 138 i) := by
  intro j
  induction j with
  | zero => rw [if_neg (by omega), if_neg (by omega), if_neg (by omega), if_neg (by omega)]; exact ⟨rfl, rfl, rfl, rfl⟩
  | succ j ih =>
    unfold slM
    by_cases q : bt Y j = 0
    · rw [Nbt q, cond_true]
      have e : (i < j + 1 ∧ bt Y i ≠ 0) ↔ (i < j ∧ bt Y i ≠ 0) := by
        constructor
        · rintro ⟨a, b⟩
          refine ⟨Nat.lt_of_le_of_ne (by omega) (fun e => ?_), b⟩
          rw [e] at b; exact b q
        · rintro ⟨a, b⟩; exact ⟨by omega, b⟩
      simp only [e]
      exact ih
    · rw [Nbf q, cond_false]
      by_cases w2 : i = j
      · subst w2
        rw [if_pos ⟨by omega, q⟩, if_pos ⟨by omega, q⟩, if_pos ⟨by omega, q⟩, if_pos ⟨by omega, q⟩]
        refine ⟨?_, ?_, ?_, AI_q⟩
        · rw [AI_n (Or.inl (by decide)), AI_n (Or.inl (by decide)), AI_n (Or.inl (by decide)), AI_q]
        · rw [AI_n (Or.inl (by decide)), AI_n (Or.inl (by decide)), AI_q]
        · rw [AI_n (Or.inl (by decide)), AI_q]
      · have e : (i < j + 1 ∧ bt Y i ≠ 0) ↔ (i < j ∧ bt Y i ≠ 0) := by
          constructor
          · rintro ⟨a, b⟩; exact ⟨by omega, b⟩
          · rintro ⟨a, b⟩; exact ⟨by omega, b⟩
        simp only [e]
        have z : ∀ o, AI (wAI (wAI (wAI (wAI (slM σ Y c y w j) 139 j (nI 1)) 136 j c) 137 j y) 138 j w) o i = AI (slM σ Y c y w j) o i := fun o => by
          rw [AI_n (Or.inr w2), AI_n (Or.inr w2), AI_n (Or.inr w2), AI_n (Or.inr w2)]
        rw [z, z, z, z]
        exact ih
theorem c117 {Y : Nat} {c y w : Int32} {τ : PS} (hd : 1 ≤ d) (hqc : FI τ 71 0 = nI n) (hn : n ≤ 12) (hY : Y < 2 ^ n) : Run false d 117 0 [some (.ref 71), some (.int (nI Y)), some (.int c), some (.int y), some (.int w), none] [] τ = some (.inl (none, slC τ Y c y w n)) := by
  obtain ⟨d, rfl⟩ := dS hd
  have hp12 : (2 : Nat) ^ n ≤ 2 ^ 12 := Nat.pow_le_pow_right (by decide) hn
  have e0 : ∀ j, FI (slC τ Y c y w j) 71 0 = nI n := fun j => by
    rw [(slC_g (sF := fun _ _ => true) (sA := fun _ => true) rfl rfl rfl j).2.1]; exact hqc
  rw [s117_0]
  refine (lpU (f := fun j => Run false (d + 1) 117 3 [some (.ref 71), some (.int (nI Y)), some (.int c), some (.int y), some (.int w), some (.int (nI j))] [] (slC τ Y c y w j)) (n := n) (fun j hj => ?_) 0 (Nat.zero_le _)).trans ?_
  · have b := bt_le (X := Y) (i := j)
    show _ = Run false (d + 1) 117 3 [some (.ref 71), some (.int (nI Y)), some (.int c), some (.int y), some (.int w), some (.int (nI (j + 1)))] [] (bif Nat.beq (bt Y j) 0 then slC τ Y c y w j else wAI (wAI (wAI (slC τ Y c y w j) 75 j c) 76 j y) 77 j w)
    rw [s117_3, e0, oleF hj (by omega), cond_false, bit_i (by omega) (by omega), inbT (by omega) (by decide), cond_true, cond_true, cond_true, nI_clamp (by omega), nI_add]
    by_cases q : bt Y j = 0
    · rw [q, oeqF (by decide) (by decide) (by decide), cond_false]; rfl
    · have q1 : bt Y j = 1 := by omega
      rw [q1, oeqT rfl, cond_true]; rfl
  · show Run false (d + 1) 117 3 _ [] (slC τ Y c y w n) = _
    rw [s117_3, e0, oleT (Nat.le_refl _) (by omega), cond_true]
theorem c257_lp {Y c : Nat} {a2 y w : Int32} {τ : PS} (hq : FI τ 85 75 = nI n) (hn : n ≤ 12) (hY : Y < 2 ^ n) (e83 : FI τ 85 83 = nI Y) (e1 : FI τ 85 1 = w) (hc : c < 4) : Run false (d + 1) 257 58 [some (.ref 85), some (.int (nI c)), some (.int a2), some (.int y), some (.int (nI 0))] [] τ = some (.inl (some (.int (FI τ 85 84)), wAI (slM τ Y (nI c) y w n) 118 c (AI τ 118 c + FI τ 85 84))) := by
  have hp12 : (2 : Nat) ^ n ≤ 2 ^ 12 := Nat.pow_le_pow_right (by decide) hn
  have ef : ∀ j, FI (slM τ Y (nI c) y w j) = FI τ := fun j => (slM_g (sF := fun _ _ => true) (sA := fun _ => true) rfl rfl rfl rfl j).2.1
  refine (lpU (f := fun j => Run false (d + 1) 257 58 [some (.ref 85), some (.int (nI c)), some (.int a2), some (.int y), some (.int (nI j))] [] (slM τ Y (nI c) y w j)) (n := n) (fun j hj => ?_) 0 (Nat.zero_le _)).trans ?_
  · have b := bt_le (X := Y) (i := j)
    show Run false (d + 1) 257 58 _ [] (slM τ Y (nI c) y w j) = Run false (d + 1) 257 58 [some (.ref 85), some (.int (nI c)), some (.int a2), some (.int y), some (.int (nI (j + 1)))] [] (bif Nat.beq (bt Y j) 0 then slM τ Y (nI c) y w j else wAI (wAI (wAI (wAI (slM τ Y (nI c) y w j) 139 j (nI 1)) 136 j (nI c)) 137 j y) 138 j w)
    rw [s257_58, ef, hq, oleF hj (by omega), cond_false, e83, bit_i (by omega) (by omega), inbT (by omega) (by decide), cond_true, is01_1, cond_true, cond_true, cond_true, cond_true, nI_clamp (by omega), nI_add, e1]
    by_cases q : bt Y j = 0
    · rw [q, z00, cond_true]; rfl
    · have q1 : bt Y j = 1 := by omega
      rw [q1, z10, cond_false]; rfl
  · show Run false (d + 1) 257 58 _ [] (slM τ Y (nI c) y w n) = _
    have e118 : AI (slM τ Y (nI c) y w n) 118 = AI τ 118 := ((slM_g (sF := fun _ _ => true) (sA := fun o => Nat.ble 136 o && Nat.ble o 139) rfl rfl rfl rfl n).1.2 118 rfl).1
    rw [s257_58, ef, hq, oleT (Nat.le_refl _) (by omega), cond_true, inbT hc (by decide), cond_true, cond_true, nI_clamp (by omega), e118]
end SL
section SM_
variable {d n s E q : Nat} {σ : PS} {y M nS : Nat} {LS : List LAW} {dec : Nat → Nat → Nat} {sm : Nat → Prop} {inn smb : Nat → Int32} {k : Int32}
/-- the class's set -/
theorem c68 {c o nW : Nat} {σ0 τ : PS} (hd : 18 ≤ d) (hy : y ≤ 40) (ho0 : Off σ0 τ) (hL : ∃ τ1, Off σ0 τ1 ∧ CW τ1 LS M nS dec sm inn ∧ Run false d 55 0 [some (.ref 0), some (.int (nI y)), some (.int (nI nW)), none, none] [] τ = some (.inl (none, τ1))) (hs : s < 5) (hc : c < nS) (eo : AI σ0 84 (s * 41 + y) = nI o) (ho2 : o ≤ 1000000) (hIO : IO_ σ0) (hIF : IF_ σ0) (hq : FI σ0 85 63 = nI q) (hqc : FI σ0 60 1 = nI q) (hq2 : q ≤ 100) (hO : FI σ0 85 75 = nI n) (hOc : FI σ0 71 0 = nI n) (hO2 : n ≤ 12) (hW : FI σ0 0 0 = nI nW) (hE : E < 2 ^ 63) (hsh : shV (bdV inn (fun m => b1 (sm m)) dec LS y M nS o c s) (lN (ntV σ0 (nI c) (nI s) (nI y) (nI nW) q + ofV σ0 (nI c) (nI s) (nI y) (nI nW) n)) = lN E) : ∃ τ', Off σ0 τ' ∧ Run false (d + 1) 68 0 [some (.ref 0), some (.int (nI c)), some (.int (nI s)), some (.int (nI y)), none, none] [] τ = some (.inl (some (.int (cSet (setR σ0 n s E))), τ')) := by
  obtain ⟨τ1, o1, hCW, r1⟩ := hL
  have hIt : IO_ τ1 := by
    unfold IO_ at hIO ⊢
    rw [offF o1 85 62 rfl, offF o1 60 0 rfl, offF o1 85 63 rfl, offF o1 60 1 rfl, offF o1 60 2 rfl, offA o1 61 rfl, offA o1 62 rfl, offA o1 63 rfl, offA o1 64 rfl, offA o1 65 rfl, offA o1 66 rfl, offA o1 67 rfl, offA o1 68 rfl, offA o1 69 rfl, offA o1 70 rfl, offA o1 122 rfl, offA o1 123 rfl, offA o1 124 rfl, offA o1 125 rfl, offA o1 126 rfl, offA o1 127 rfl, offA o1 128 rfl, offA o1 129 rfl, offA o1 130 rfl, offA o1 131 rfl, offA o1 132 rfl]; exact hIO
  have hFt : IF_ τ1 := by
    unfold IF_ at hIF ⊢
    rw [offF o1 85 75 rfl, offF o1 71 0 rfl, offA o1 72 rfl, offA o1 73 rfl, offA o1 74 rfl, offA o1 75 rfl, offA o1 76 rfl, offA o1 77 rfl, offA o1 133 rfl, offA o1 134 rfl, offA o1 135 rfl, offA o1 136 rfl, offA o1 137 rfl, offA o1 138 rfl, offA o1 139 rfl]; exact hIF
  obtain ⟨τ2, p2, r2⟩ := c67 (d := d) (c := c) (s := s) (o := o) (q := q) (nO := n) (k := nI nW) (by omega) hy hCW hs hc (by rw [offA o1 84 rfl]; exact eo) ho2 hIt hFt ((offF o1 85 63 rfl).trans hq) ((offF o1 60 1 rfl).trans hqc) hq2 ((offF o1 85 75 rfl).trans hO) ((offF o1 71 0 rfl).trans hOc) hO2
  rw [ntV_off o1, ofV_off o1, hsh] at r2
  have o2 := off_t o1 (pt_C p2)
  have eW : FI τ1 0 0 = nI nW := (offF o1 0 0 rfl).trans hW
  have eW0 : FI τ 0 0 = nI nW := (offF ho0 0 0 rfl).trans hW
  rw [s68_0, eW0, r1, aft_n, s68_9, eW, r2, aft_v, s68_20, lgGt, LLt (by decide) hE]
  unfold setR
  by_cases z : E = 0
  · rw [Nbt z, z]
    exact ⟨τ2, o2, by rw [show (!Nat.ble 0 0) = false from rfl, cond_false, s68_43]; rfl⟩
  · rw [Nbf z, Nlf (show 0 < E by omega), Bool.not_false, cond_true, cond_false]
    obtain ⟨τ3, o3, r3⟩ := c119 (d := d) (s := s) (by omega) hIF hO hOc hO2 hE o2
    exact ⟨τ3, o3, by rw [r3, aft_v, s68_43]⟩
/-- the model's -/
theorem c254 {c o : Nat} (hd : 14 ≤ d) (hy : y ≤ 40) (hk : FI σ 85 1 = k) (h : MW σ LS y k M nS dec smb inn) (hs : s < 5) (hc : c < nS) (ho : AI σ 117 (41 * s + y) = nI o) (ho2 : o ≤ 1000000) (hIO : IO_ σ) (hIF : IFm σ n) (hq : FI σ 85 63 = nI q) (hq2 : q ≤ 100) (hO : FI σ 85 75 = nI n) (hO2 : n ≤ 12) (hE : E < 2 ^ 63) (hsh : shV (bdV inn smb dec LS y M nS o c s) (lN (ntV σ (nI c) (nI s) (nI y) k q + ofV σ (nI c) (nI s) (nI y) k n)) = lN E) : ∃ τ', RpM σ τ' n (setR σ n s E) ∧ Run false d 254 0 [some (.ref 85), some (.int (nI c)), some (.int (nI s)), some (.int (nI y)), none, none, none, none, none, none, none, none, none] [] σ = some (.inl (some (.int (mA6 (setR σ n s E))), τ')) := by
  obtain ⟨d, rfl⟩ := dS (show 1 ≤ d by omega)
  obtain ⟨τ, p, r⟩ := c240 (d := d) (by omega) hy h hs hc ho ho2 hIO hIF hq hq2 hO hO2
  have oc := pt_M p
  rw [hsh] at r
  rw [s254_0, hk, r, aft_v, s254_11, lgEq, LLe hE (by decide)]
  have o3 : Off σ (wFI (wFI τ 85 83 (nI 0)) 85 84 (nI 0)) := off_fi (off_fi oc rfl) rfl
  have e83 : FI (wFI (wFI τ 85 83 (nI 0)) 85 84 (nI 0)) 85 83 = nI 0 := by rw [FI_n (Or.inr (by decide)), FI_q]
  unfold setR
  by_cases z : E = 0
  · rw [Nbt z, cond_true, cond_true, is01_1, cond_true]
    refine ⟨_, ⟨o3, e83, ?_, fun Y w => ?_⟩, rfl⟩
    · show FI _ 85 84 = nI (smB (opP σ) n 0)
      rw [FI_q, smB_0]
    · injection w with w
      rw [← w]
      exact Nat.pow_pos (by decide)
  · rw [Nbf z, cond_false, cond_false]
    have hkk : ∀ j, j < n → 1 ≤ opK σ j := fun j hj => by
      obtain ⟨⟨v, hv0, hv, f4⟩, -⟩ := hIF j hj
      unfold opK
      rw [f4, nI_clamp (by omega)]; exact hv0
    rw [dfs_md hkk]
    exact c254_lp (by omega) hIF hO hO2 hE (by omega) o3 e83 FI_q
end SM_
