/-! THE PURE PROOFS: wrappers -/
section MR
variable {d y s : Nat} {LS : List LAW} {X : Option (List CLS)} {σ : PS}
theorem c99_fee (hd : 1 ≤ d) (hs : s ≤ 4) (hy : y ≤ 40) (h : LC LS σ) : Run false d 99 0 [some (.ref 1), some (.int (nI 210)), some (.int (nI s)), some (.int (nI y)), none, none, none] [] σ = some (.inl (some (.int (ixV (lawIx LS 0 s y LS.length))), σ)) := c99 (k := 0) hd (by decide) hs hy h
theorem c199_fee (hd : 1 ≤ d) (hs : s ≤ 4) (hy : y ≤ 40) (h : LM LS X σ) : Run false d 199 0 [some (.ref 85), some (.int (nI 0)), some (.int (nI s)), some (.int (nI y)), none, none, none, none] [] σ = some (.inl (some (.int (ixV (mIx LS X 0 s y 11))), σ)) := c199 (k := 0) hd (by decide) hs hy h
theorem w0m : obl (nI 0 ≤ (-1 : Int32)) = false := obl_f (by decide +kernel)
theorem wmm : obl ((-1 : Int32) = (-1 : Int32)) = true := obl_t rfl
theorem wnm {n : Nat} (h : n < 2 ^ 31) : obl (nI n = (-1 : Int32)) = false := obl_f (nI_m1n h)
theorem ixV_n : ixV none = -1 := rfl
theorem ixV_s {i : Nat} : ixV (some i) = nI i := rfl
end MR
theorem inR_c {σ τ : PS} {m y : Nat} (h1 : AI τ 114 = AI σ 114) (h2 : AI τ 115 = AI σ 115) (h3 : AI τ 116 = AI σ 116) : ∀ n, inR τ m y n = inR σ m y n := by
  intro n
  induction n with
  | zero => rfl
  | succ n ih => unfold inR; rw [ih, h1, h2, h3]
theorem dcN_off' {σ τ : PS} {y n : Nat} {k : Int32} (h : Off σ τ) : dcN τ y k n = dcN σ y k n := by
  funext m s
  exact dcN_off h
theorem dcN_z {σ : PS} {y n : Nat} {k : Int32} {z : Int64} {v : Int32} : dcN (wFI (wAL σ 145 0 z) 85 0 v) y k n = dcN σ y k n := by
  funext m s
  unfold dcN
  rw [dcl_eq (τ := wFI (wAL σ 145 0 z) 85 0 v) (σ := σ) rfl rfl rfl rfl rfl]
theorem dcN_zb {σ : PS} {y n i : Nat} {k : Int32} {v : Int64} : dcN (wAL σ 83 i v) y k n = dcN σ y k n := by
  funext m s
  unfold dcN
  rw [dcl_eq (τ := wAL σ 83 i v) (σ := σ) rfl rfl rfl rfl rfl]
theorem DM_w {σ : PS} {y M N : Nat} {k : Int32} {dec : Nat → Nat → Nat} (h : DM σ y k N dec) (hM : M ≤ N) : DM σ y k M dec := ⟨h.1, fun τ ho d hd m s hm hs => h.2 τ ho d hd m s (by omega) hs⟩
