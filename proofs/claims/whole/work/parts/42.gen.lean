/-! THE PURE PROOFS: what an op keeps of the invariant -/
/-- all but the fields sF and the arrays sA stay -/
def OffG (sF : Nat → Nat → Bool) (sA : Nat → Bool) (σ τ : PS) : Prop := (∀ o k, sF o k = false → FI τ o k = FI σ o k) ∧ ∀ o, sA o = false → AI τ o = AI σ o ∧ AL τ o = AL σ o
def qF (sF : Nat → Nat → Bool) (l : List (Nat × Nat)) : Bool := l.all (fun p => !sF p.1 p.2)
def qA (sA : Nat → Bool) (l : List Nat) : Bool := l.all (fun p => !sA p)
section OG
variable {sF : Nat → Nat → Bool} {sA : Nat → Bool} {σ τ υ : PS}
theorem offG_r : OffG sF sA σ σ := ⟨fun _ _ _ => rfl, fun _ _ => ⟨rfl, rfl⟩⟩
theorem offG_t (h : OffG sF sA σ τ) (g : OffG sF sA τ υ) : OffG sF sA σ υ := ⟨fun o k q => (g.1 o k q).trans (h.1 o k q), fun o q => ⟨(g.2 o q).1.trans (h.2 o q).1, (g.2 o q).2.trans (h.2 o q).2⟩⟩
theorem offG_fi {o k : Nat} {v : Int32} (q : sF o k = true) (h : OffG sF sA σ τ) : OffG sF sA σ (wFI τ o k v) := by
  refine offG_t h ⟨fun o' k' q' => ?_, fun _ _ => ⟨rfl, rfl⟩⟩
  rw [FI_i, if_neg]
  rintro ⟨rfl, rfl⟩
  rw [q] at q'; cases q'
theorem offG_fl {o k : Nat} {v : Int64} (h : OffG sF sA σ τ) : OffG sF sA σ (wFL τ o k v) := h
theorem offG_ai {o k : Nat} {v : Int32} (q : sA o = true) (h : OffG sF sA σ τ) : OffG sF sA σ (wAI τ o k v) := by
  refine offG_t h ⟨fun _ _ _ => rfl, fun o' q' => ⟨?_, rfl⟩⟩
  funext j
  rw [AI_i, if_neg]
  rintro ⟨rfl, rfl⟩
  rw [q] at q'; cases q'
theorem offG_al {o k : Nat} {v : Int64} (q : sA o = true) (h : OffG sF sA σ τ) : OffG sF sA σ (wAL τ o k v) := by
  refine offG_t h ⟨fun _ _ _ => rfl, fun o' q' => ⟨rfl, ?_⟩⟩
  funext j
  rw [AL_l, if_neg]
  rintro ⟨rfl, rfl⟩
  rw [q] at q'; cases q'
theorem offG_off (h : Off σ τ) (h1 : ∀ o k, sF o k = false → scF o k = false) (h2 : ∀ o, sA o = false → scA o = false) : OffG sF sA σ τ := ⟨fun o k q => offF h o k (h1 o k q), fun o q => ⟨offA h o (h2 o q), offB h o (h2 o q)⟩⟩
theorem qF_m {l : List (Nat × Nat)} {o k : Nat} (q : qF sF l = true) (m : (o, k) ∈ l) : sF o k = false := by
  have := List.all_eq_true.mp q (o, k) m
  simpa using this
theorem qA_m {l : List Nat} {o : Nat} (q : qA sA l = true) (m : o ∈ l) : sA o = false := by
  have := List.all_eq_true.mp q o m
  simpa using this
theorem I0g (h : OffG sF sA σ τ) (q : qF sF [(85, 1), (0, 0), (85, 29), (0, 1), (85, 45), (85, 22)] = true) (g : I0 σ) : I0 τ := by
  unfold I0 at g ⊢
  rw [h.1 85 1 (qF_m q (by decide)), h.1 0 0 (qF_m q (by decide)), h.1 85 29 (qF_m q (by decide)), h.1 0 1 (qF_m q (by decide)), h.1 85 45 (qF_m q (by decide)), h.1 85 22 (qF_m q (by decide))]
  exact g
theorem ITg (h : OffG sF sA σ τ) (q : qF sF [(85, 2), (12, 0), (12, 1), (85, 11)] = true) (p : qA sA [13, 86, 88] = true) (g : IT σ) : IT τ := by
  unfold IT at g ⊢
  rw [h.1 85 2 (qF_m q (by decide)), h.1 12 0 (qF_m q (by decide)), h.1 12 1 (qF_m q (by decide)), h.1 85 11 (qF_m q (by decide)), (h.2 13 (qA_m p (by decide))).1, (h.2 86 (qA_m p (by decide))).1, (h.2 88 (qA_m p (by decide))).1]
  exact g
theorem IPg (h : OffG sF sA σ τ) (q : qF sF [(85, 30), (17, 0)] = true) (p : qA sA [18, 19, 20, 21, 22, 23, 24, 25, 97, 98, 99, 100, 101, 102, 103, 104] = true) (g : IP σ) : IP τ := by
  unfold IP at g ⊢
  rw [h.1 85 30 (qF_m q (by decide)), h.1 17 0 (qF_m q (by decide)), (h.2 18 (qA_m p (by decide))).1, (h.2 19 (qA_m p (by decide))).1, (h.2 20 (qA_m p (by decide))).1, (h.2 21 (qA_m p (by decide))).1, (h.2 22 (qA_m p (by decide))).1, (h.2 23 (qA_m p (by decide))).1, (h.2 24 (qA_m p (by decide))).1, (h.2 25 (qA_m p (by decide))).1, (h.2 97 (qA_m p (by decide))).1, (h.2 98 (qA_m p (by decide))).1, (h.2 99 (qA_m p (by decide))).1, (h.2 100 (qA_m p (by decide))).1, (h.2 101 (qA_m p (by decide))).1, (h.2 102 (qA_m p (by decide))).1, (h.2 103 (qA_m p (by decide))).1, (h.2 104 (qA_m p (by decide))).1]
  exact g
theorem IDg (h : OffG sF sA σ τ) (q : qF sF [(85, 39), (26, 0)] = true) (p : qA sA [27, 28, 29, 30, 105, 106, 107, 108, 109] = true) (g : ID σ) : ID τ := by
  unfold ID at g ⊢
  rw [h.1 85 39 (qF_m q (by decide)), h.1 26 0 (qF_m q (by decide)), (h.2 27 (qA_m p (by decide))).1, (h.2 28 (qA_m p (by decide))).1, (h.2 29 (qA_m p (by decide))).1, (h.2 30 (qA_m p (by decide))).1, (h.2 105 (qA_m p (by decide))).1, (h.2 106 (qA_m p (by decide))).1, (h.2 107 (qA_m p (by decide))).1, (h.2 108 (qA_m p (by decide))).1, (h.2 109 (qA_m p (by decide))).1]
  exact g
theorem ISg (h : OffG sF sA σ τ) (q : qF sF [(85, 52), (31, 0), (85, 53), (31, 1)] = true) (p : qA sA [32, 33, 34, 35, 114, 115, 116, 118] = true) (g : IS σ) : IS τ := by
  unfold IS at g ⊢
  rw [h.1 85 52 (qF_m q (by decide)), h.1 31 0 (qF_m q (by decide)), h.1 85 53 (qF_m q (by decide)), h.1 31 1 (qF_m q (by decide)), (h.2 32 (qA_m p (by decide))).1, (h.2 33 (qA_m p (by decide))).1, (h.2 34 (qA_m p (by decide))).1, (h.2 35 (qA_m p (by decide))).1, (h.2 114 (qA_m p (by decide))).1, (h.2 115 (qA_m p (by decide))).1, (h.2 116 (qA_m p (by decide))).1, (h.2 118 (qA_m p (by decide))).1]
  exact g
theorem IO_g (h : OffG sF sA σ τ) (q : qF sF [(85, 62), (60, 0), (85, 63), (60, 1), (60, 2)] = true) (p : qA sA [61, 62, 63, 64, 65, 66, 67, 68, 69, 70, 122, 123, 124, 125, 126, 127, 128, 129, 130, 131, 132] = true) (g : IO_ σ) : IO_ τ := by
  unfold IO_ at g ⊢
  rw [h.1 85 62 (qF_m q (by decide)), h.1 60 0 (qF_m q (by decide)), h.1 85 63 (qF_m q (by decide)), h.1 60 1 (qF_m q (by decide)), h.1 60 2 (qF_m q (by decide)), (h.2 61 (qA_m p (by decide))).1, (h.2 62 (qA_m p (by decide))).1, (h.2 63 (qA_m p (by decide))).1, (h.2 64 (qA_m p (by decide))).1, (h.2 65 (qA_m p (by decide))).1, (h.2 66 (qA_m p (by decide))).1, (h.2 67 (qA_m p (by decide))).1, (h.2 68 (qA_m p (by decide))).1, (h.2 69 (qA_m p (by decide))).1, (h.2 70 (qA_m p (by decide))).1, (h.2 122 (qA_m p (by decide))).1, (h.2 123 (qA_m p (by decide))).1, (h.2 124 (qA_m p (by decide))).1, (h.2 125 (qA_m p (by decide))).1, (h.2 126 (qA_m p (by decide))).1, (h.2 127 (qA_m p (by decide))).1, (h.2 128 (qA_m p (by decide))).1, (h.2 129 (qA_m p (by decide))).1, (h.2 130 (qA_m p (by decide))).1, (h.2 131 (qA_m p (by decide))).1, (h.2 132 (qA_m p (by decide))).1]
  exact g
theorem IF_g (h : OffG sF sA σ τ) (q : qF sF [(85, 75), (71, 0)] = true) (p : qA sA [72, 73, 74, 75, 76, 77, 133, 134, 135, 136, 137, 138, 139] = true) (g : IF_ σ) : IF_ τ := by
  unfold IF_ at g ⊢
  rw [h.1 85 75 (qF_m q (by decide)), h.1 71 0 (qF_m q (by decide)), (h.2 72 (qA_m p (by decide))).1, (h.2 73 (qA_m p (by decide))).1, (h.2 74 (qA_m p (by decide))).1, (h.2 75 (qA_m p (by decide))).1, (h.2 76 (qA_m p (by decide))).1, (h.2 77 (qA_m p (by decide))).1, (h.2 133 (qA_m p (by decide))).1, (h.2 134 (qA_m p (by decide))).1, (h.2 135 (qA_m p (by decide))).1, (h.2 136 (qA_m p (by decide))).1, (h.2 137 (qA_m p (by decide))).1, (h.2 138 (qA_m p (by decide))).1, (h.2 139 (qA_m p (by decide))).1]
  exact g
theorem IMg (h : OffG sF sA σ τ) (q : qF sF [(85, 85), (78, 0)] = true) (p : qA sA [79, 80, 81, 82, 140, 141, 142, 143, 144] = true) (g : IM σ) : IM τ := by
  unfold IM at g ⊢
  rw [h.1 85 85 (qF_m q (by decide)), h.1 78 0 (qF_m q (by decide)), (h.2 79 (qA_m p (by decide))).1, (h.2 80 (qA_m p (by decide))).1, (h.2 81 (qA_m p (by decide))).1, (h.2 82 (qA_m p (by decide))).1, (h.2 140 (qA_m p (by decide))).1, (h.2 141 (qA_m p (by decide))).1, (h.2 142 (qA_m p (by decide))).1, (h.2 143 (qA_m p (by decide))).1, (h.2 144 (qA_m p (by decide))).1]
  exact g
theorem IBg (h : OffG sF sA σ τ) (p : qA sA [84, 117, 83, 110] = true) (g : IB σ) : IB τ := by
  unfold IB at g ⊢
  rw [(h.2 84 (qA_m p (by decide))).1, (h.2 117 (qA_m p (by decide))).1, (h.2 83 (qA_m p (by decide))).2, (h.2 110 (qA_m p (by decide))).2]
  exact g
theorem ILg {LS : List LAW} (h : OffG sF sA σ τ) (q : qF sF [(85, 10), (1, 0)] = true) (p : qA sA [2, 3, 4, 5, 6, 7, 8, 9, 87, 88, 89, 90, 91, 92, 93, 94, 95] = true) (g : IL LS σ) : IL LS τ := by
  unfold IL rowC rowM clC clM at g ⊢
  rw [h.1 85 10 (qF_m q (by decide)), h.1 1 0 (qF_m q (by decide)), (h.2 2 (qA_m p (by decide))).1, (h.2 3 (qA_m p (by decide))).1, (h.2 4 (qA_m p (by decide))).1, (h.2 5 (qA_m p (by decide))).1, (h.2 6 (qA_m p (by decide))).1, (h.2 7 (qA_m p (by decide))).1, (h.2 8 (qA_m p (by decide))).1, (h.2 9 (qA_m p (by decide))).1, (h.2 87 (qA_m p (by decide))).1, (h.2 88 (qA_m p (by decide))).1, (h.2 89 (qA_m p (by decide))).1, (h.2 90 (qA_m p (by decide))).1, (h.2 91 (qA_m p (by decide))).1, (h.2 92 (qA_m p (by decide))).1, (h.2 93 (qA_m p (by decide))).1, (h.2 94 (qA_m p (by decide))).1, (h.2 95 (qA_m p (by decide))).1]
  exact g
end OG
/-- an array filled from b on -/
def filA (o b : Nat) (v : Int32) (σ : PS) : Nat → PS
  | 0 => σ
  | n + 1 => wAI (filA o b v σ n) o (b + n) v
theorem filA_i {o b : Nat} {v : Int32} {σ : PS} {o' j : Nat} : ∀ n, AI (filA o b v σ n) o' j = if o' = o ∧ b ≤ j ∧ j < b + n then v else AI σ o' j := by
  intro n
  induction n with
  | zero => rw [if_neg (by omega)]; rfl
  | succ n ih =>
    show AI (wAI _ _ _ _) _ _ = _
    rw [AI_i, ih]
    by_cases q : o' = o ∧ j = b + n
    · rw [if_pos q, if_pos (by omega)]
    · rw [if_neg q]
      by_cases r : o' = o ∧ b ≤ j ∧ j < b + n
      · rw [if_pos r, if_pos (by omega)]
      · rw [if_neg r, if_neg (by omega)]
theorem filA_f {o b : Nat} {v : Int32} {σ : PS} {o' k : Nat} : ∀ n, FI (filA o b v σ n) o' k = FI σ o' k := by
  intro n
  induction n with
  | zero => rfl
  | succ n ih => exact ih
theorem filA_al {o b : Nat} {v : Int32} {σ : PS} {o' k : Nat} : ∀ n, AL (filA o b v σ n) o' k = AL σ o' k := by
  intro n
  induction n with
  | zero => rfl
  | succ n ih => exact ih
theorem filA_x {o b : Nat} {v : Int32} {σ : PS} : ∀ n, XX (filA o b v σ n) = XX σ := by
  intro n
  induction n with
  | zero => rfl
  | succ n ih => exact ih
theorem filA_g {sF : Nat → Nat → Bool} {sA : Nat → Bool} {o b : Nat} {v : Int32} {σ : PS} (q : sA o = true) : ∀ n, OffG sF sA σ (filA o b v σ n) := by
  intro n
  induction n with
  | zero => exact offG_r
  | succ n ih => exact offG_ai q ih
/-- numbers laid behind one another, and counted -/
def fdS (oA oF kF : Nat) (f : Nat → Int32) (n : Nat) (σ : PS) : Nat → PS
  | 0 => σ
  | k + 1 => wFI (wAI (fdS oA oF kF f n σ k) oA (n + k) (f k)) oF kF (nI (n + k + 1))
section FD
variable {oA oF kF n : Nat} {f : Nat → Int32} {σ : PS}
theorem fdS_i {o j : Nat} : ∀ k, AI (fdS oA oF kF f n σ k) o j = if o = oA ∧ n ≤ j ∧ j < n + k then f (j - n) else AI σ o j := by
  intro k
  induction k with
  | zero => rw [if_neg (by omega)]; rfl
  | succ k ih =>
    show AI (wAI _ _ _ _) _ _ = _
    rw [AI_i, ih]
    by_cases q : o = oA ∧ j = n + k
    · rw [if_pos q, if_pos (by omega), q.2, Nat.add_sub_cancel_left]
    · rw [if_neg q]
      by_cases r : o = oA ∧ n ≤ j ∧ j < n + k
      · rw [if_pos r, if_pos (by omega)]
      · rw [if_neg r, if_neg (by omega)]
theorem fdS_f (h : FI σ oF kF = nI n) : ∀ k, FI (fdS oA oF kF f n σ k) oF kF = nI (n + k) := by
  intro k
  cases k with
  | zero => exact h
  | succ k => exact FI_q
theorem fdS_al {o j : Nat} : ∀ k, AL (fdS oA oF kF f n σ k) o j = AL σ o j := by
  intro k
  induction k with
  | zero => rfl
  | succ k ih => exact ih
theorem fdS_x : ∀ k, XX (fdS oA oF kF f n σ k) = XX σ := by
  intro k
  induction k with
  | zero => rfl
  | succ k ih => exact ih
theorem fdS_g {sF : Nat → Nat → Bool} {sA : Nat → Bool} (q : sA oA = true) (p : sF oF kF = true) : ∀ k, OffG sF sA σ (fdS oA oF kF f n σ k) := by
  intro k
  induction k with
  | zero => exact offG_r
  | succ k ih => exact offG_fi p (offG_ai q ih)
end FD
