/-! THE PURE PROOFS: feed, fault -/
/-- the byte of a number that stands over the shift -/
def byC (a s : Int32) : Int32 := ((a.toUInt32 >>> (s.toUInt32 &&& Int32.toUInt32 31)).toInt32) &&& nI 255
def byM (a s : Int32) : Int32 := (a >>> (s &&& (31 : Int32))) &&& nI 255
theorem by_eq {a : Int32} {s : Nat} (h : s = 24 ∨ s = 16 ∨ s = 8 ∨ s = 0) : byC a (nI s) = byM a (nI s) := by
  apply Int32.toBitVec_inj.mp
  have key : ∀ t : Nat, t ≤ 24 → ∀ x : BitVec 32, (x >>> t) &&& 255#32 = (x.sshiftRight t) &&& 255#32 := by
    intro t ht x
    apply BitVec.eq_of_getLsbD_eq
    intro i hi
    rw [BitVec.getLsbD_and, BitVec.getLsbD_and, BitVec.getLsbD_ushiftRight, BitVec.getLsbD_sshiftRight]
    by_cases q : i < 8
    · rw [show decide (32 ≤ i) = false from decide_eq_false (by omega), if_pos (show t + i < 32 by omega)]
      rfl
    · have : (255#32).getLsbD i = false := by
        rw [BitVec.getLsbD_ofNat]
        have h2 : Nat.testBit 255 i = false := by
          apply Nat.testBit_lt_two_pow
          calc 255 < 2 ^ 8 := by decide
            _ ≤ 2 ^ i := Nat.pow_le_pow_right (by decide) (by omega)
        rw [h2, Bool.and_false]
      rw [this, Bool.and_false, Bool.and_false]
  rcases h with rfl | rfl | rfl | rfl
  · exact key 24 (by decide) a.toBitVec
  · exact key 16 (by decide) a.toBitVec
  · exact key 8 (by decide) a.toBitVec
  · exact key 0 (by decide) a.toBitVec
theorem by_r {a s : Int32} : IR 0 255 (byM a s) := by
  refine ⟨(byM a s).toBitVec.toNat, Nat.zero_le _, ?_, ?_⟩
  · show ((a >>> (s &&& 31)).toBitVec &&& (nI 255).toBitVec).toNat ≤ 255
    rw [BitVec.toNat_and]
    exact Nat.le_trans Nat.and_le_right (by decide)
  · exact (Int32.toBitVec_inj.mp (by
      show (byM a s).toBitVec = BitVec.ofNat 32 _
      rw [BitVec.ofNat_toNat, BitVec.setWidth_eq]))
/-- which number the byte number j is of; the byte -/
def selF (a b c d e : Int32) (j : Nat) : Int32 := bif Nat.ble 4 j then (bif Nat.ble 8 j then (bif Nat.ble 12 j then (bif Nat.ble 16 j then e else d) else c) else b) else a
def fdB (a b c d e : Int32) (j : Nat) : Int32 := byM (selF a b c d e j) ((nI 24) - ((nI 8) * (nI j - nI j / (nI 4) * (nI 4))))
def fdZ (a b c d e : Int32) : Nat → Option Value
  | 0 => none
  | j + 1 => some (.int (selF a b c d e j))
section FE
variable {d n : Nat} {σ : PS} {f : Nat → Int32}
theorem c131 {k : Nat} {a : Int32} {τ : PS} (hd : 1 ≤ d) (e : τ = fdS 13 12 0 f n σ k) (h : FI σ 12 0 = nI n) (hn : n + k + 4 ≤ 400) (h0 : byC a (nI 24) = f k) (h1 : byC a (nI 16) = f (k + 1)) (h2 : byC a (nI 8) = f (k + 2)) (h3 : byC a (nI 0) = f (k + 3)) : Run false d 131 0 [some (.ref 12), some (.int a), none] [] τ = some (.inl (none, fdS 13 12 0 f n σ (k + 4))) := by
  obtain ⟨d, rfl⟩ := dS hd
  have st : ∀ (j : Nat) (s : Int32), n + j < 400 → obl (s < nI 0) = false → byC a s = f j → Run false (d + 1) 131 3 [some (.ref 12), some (.int a), some (.int s)] [] (fdS 13 12 0 f n σ j) = Run false (d + 1) 131 3 [some (.ref 12), some (.int a), some (.int (s + (-8 : Int32)))] [] (fdS 13 12 0 f n σ (j + 1)) := by
    intro j s hj q1 q2
    rw [s131_3, q1, cond_false, fdS_f h, oleF hj (by decide), cond_false, inbT hj (by decide), cond_true, nI_clamp (by omega), nI_add]
    unfold byC at q2
    rw [q2]
    rfl
  subst e
  rw [s131_0, st k (nI 24) (by omega) (obl_f (by decide)) h0, show nI 24 + (-8 : Int32) = nI 16 by decide +kernel, st (k + 1) (nI 16) (by omega) (obl_f (by decide)) h1, show nI 16 + (-8 : Int32) = nI 8 by decide +kernel, st (k + 2) (nI 8) (by omega) (obl_f (by decide)) h2, show nI 8 + (-8 : Int32) = nI 0 by decide +kernel, st (k + 3) (nI 0) (by omega) (obl_f (by decide)) h3, show nI 0 + (-8 : Int32) = -8 by decide +kernel, s131_3, obl_t (by decide +kernel), cond_true]
end FE
def tpF (o k : Nat) : Bool := (Nat.beq o 12 && Nat.beq k 0) || (Nat.beq o 85 && (Nat.beq k 0 || Nat.beq k 2))
def tpA (o : Nat) : Bool := Nat.beq o 13 || Nat.beq o 86 || Nat.beq o 145
section FF
variable {a1 a2 a3 a4 a5 : Int32} {n d : Nat} {σ : PS} {f : Nat → Int32}
theorem feed_C (e : FI σ 12 0 = nI n) (hn : n + 20 ≤ 400) (hfe : fdB a1 a2 a3 a4 a5 = f) : Run false (d + 40) 2 0 [some (.ref 0), some (.int a1), some (.int a2), some (.int a3), some (.int a4), some (.int a5)] [] σ = some (.inl (some (.int (nI (n + 20))), fdS 13 12 0 f n σ 20)) := by
  have hs : ∀ j s, j < 20 → (nI 24) - ((nI 8) * (nI j - nI j / (nI 4) * (nI 4))) = nI s → s = 24 ∨ s = 16 ∨ s = 8 ∨ s = 0 → byC (selF a1 a2 a3 a4 a5 j) (nI s) = f j := by
    intro j s _ h1 h2
    rw [by_eq h2, ← hfe]
    unfold fdB
    rw [h1]
  have p0 : Run false (d + 39) 131 0 [some (.ref 12), some (.int a1), none] [] σ = some (.inl (none, fdS 13 12 0 f n σ 4)) := c131 (f := f) (n := n) (σ := σ) (τ := σ) (k := 0) (by omega) rfl e (by omega) (hs 0 24 (by decide) (by decide +kernel) (by decide)) (hs 1 16 (by decide) (by decide +kernel) (by decide)) (hs 2 8 (by decide) (by decide +kernel) (by decide)) (hs 3 0 (by decide) (by decide +kernel) (by decide))
  have p4 : Run false (d + 39) 131 0 [some (.ref 12), some (.int a2), none] [] (fdS 13 12 0 f n σ 4) = some (.inl (none, fdS 13 12 0 f n σ 8)) := c131 (f := f) (n := n) (σ := σ) (τ := (fdS 13 12 0 f n σ 4)) (k := 4) (by omega) rfl e (by omega) (hs 4 24 (by decide) (by decide +kernel) (by decide)) (hs 5 16 (by decide) (by decide +kernel) (by decide)) (hs 6 8 (by decide) (by decide +kernel) (by decide)) (hs 7 0 (by decide) (by decide +kernel) (by decide))
  have p8 : Run false (d + 39) 131 0 [some (.ref 12), some (.int a3), none] [] (fdS 13 12 0 f n σ 8) = some (.inl (none, fdS 13 12 0 f n σ 12)) := c131 (f := f) (n := n) (σ := σ) (τ := (fdS 13 12 0 f n σ 8)) (k := 8) (by omega) rfl e (by omega) (hs 8 24 (by decide) (by decide +kernel) (by decide)) (hs 9 16 (by decide) (by decide +kernel) (by decide)) (hs 10 8 (by decide) (by decide +kernel) (by decide)) (hs 11 0 (by decide) (by decide +kernel) (by decide))
  have p12 : Run false (d + 39) 131 0 [some (.ref 12), some (.int a4), none] [] (fdS 13 12 0 f n σ 12) = some (.inl (none, fdS 13 12 0 f n σ 16)) := c131 (f := f) (n := n) (σ := σ) (τ := (fdS 13 12 0 f n σ 12)) (k := 12) (by omega) rfl e (by omega) (hs 12 24 (by decide) (by decide +kernel) (by decide)) (hs 13 16 (by decide) (by decide +kernel) (by decide)) (hs 14 8 (by decide) (by decide +kernel) (by decide)) (hs 15 0 (by decide) (by decide +kernel) (by decide))
  have p16 : Run false (d + 39) 131 0 [some (.ref 12), some (.int a5), none] [] (fdS 13 12 0 f n σ 16) = some (.inl (none, fdS 13 12 0 f n σ 20)) := c131 (f := f) (n := n) (σ := σ) (τ := (fdS 13 12 0 f n σ 16)) (k := 16) (by omega) rfl e (by omega) (hs 16 24 (by decide) (by decide +kernel) (by decide)) (hs 17 16 (by decide) (by decide +kernel) (by decide)) (hs 18 8 (by decide) (by decide +kernel) (by decide)) (hs 19 0 (by decide) (by decide +kernel) (by decide))
  rw [s2_0, e, nI_add, oleT hn (by omega), cond_true, p0, aft_n, s2_26, p4, aft_n, s2_34, p8, aft_n, s2_42, p12, aft_n, s2_51, p16, aft_n, s2_60, fdS_f e]
theorem feed_M {ρ : PS} (e2 : FI ρ 85 2 = nI n) (hn : n + 20 ≤ 400) (hfe : fdB a1 a2 a3 a4 a5 = f) : Run false (d + 1) 171 23 [some (.ref 85), some (.int a1), some (.int a2), some (.int a3), some (.int a4), some (.int a5), some (.int (nI 0)), none] [] ρ = some (.inl (some (.int (nI (n + 20))), fdS 86 85 2 f n ρ 20)) := by
  refine (lpU (f := fun j => Run false (d + 1) 171 23 [some (.ref 85), some (.int a1), some (.int a2), some (.int a3), some (.int a4), some (.int a5), some (.int (nI j)), fdZ a1 a2 a3 a4 a5 j] [] (fdS 86 85 2 f n ρ j)) (n := 20) (fun j hj => ?_) 0 (Nat.zero_le _)).trans ?_
  · show Run false (d + 1) 171 23 _ [] (fdS 86 85 2 f n ρ j) = Run false (d + 1) 171 23 [some (.ref 85), some (.int a1), some (.int a2), some (.int a3), some (.int a4), some (.int a5), some (.int (nI (j + 1))), some (.int (selF a1 a2 a3 a4 a5 j))] [] (wFI (wAI (fdS 86 85 2 f n ρ j) 86 (n + j) (f j)) 85 2 (nI (n + j + 1)))
    generalize hτ : fdS 86 85 2 f n ρ j = τ
    have eτ : FI τ 85 2 = nI (n + j) := by rw [← hτ]; exact fdS_f e2 j
    rw [s171_23, eτ, oleF hj (by decide), cond_false, Olb (by decide) (by omega), Olb (by decide) (by omega), Olb (by decide) (by omega), Olb (by decide) (by omega), obl_f (show ¬ nI 4 = nI 0 by decide +kernel), inbT (by omega) (by decide), nI_clamp (by omega), nI_add, nI_add]
    simp only [cond_true, cond_false]
    rw [← hfe]
    unfold fdB selF byM
    cases Nat.ble 4 j
    · rfl
    · cases Nat.ble 8 j
      · rfl
      · cases Nat.ble 12 j
        · rfl
        · cases Nat.ble 16 j <;> rfl
  · show Run false (d + 1) 171 23 _ [] (fdS 86 85 2 f n ρ 20) = _
    rw [s171_23, oleT (Nat.le_refl _) (by decide), cond_true, fdS_f e2]
theorem feed_g {z : Int64} (k : Nat) : OffG tpF tpA σ (fdS 86 85 2 f n (wFI (wAL (fdS 13 12 0 f n σ k) 145 0 z) 85 0 (nI 0)) k) := offG_t (offG_fi rfl (offG_al rfl (fdS_g rfl rfl k))) (fdS_g rfl rfl k)
theorem feed_I {z : Int64} {k : Nat} (hI : Inv σ) (e : FI σ 85 2 = nI n) (hn : n + k ≤ 400) (hf : ∀ j, IR 0 255 (f j)) : Inv (fdS 86 85 2 f n (wFI (wAL (fdS 13 12 0 f n σ k) 145 0 z) 85 0 (nI 0)) k) := by
  have hg := feed_g (σ := σ) (n := n) (f := f) (z := z) k
  obtain ⟨g0, ⟨⟨nB, hB, eB, eBc, hBy⟩, eFa, eC10⟩, g2, g3, g4, g5, g6, g7, g8, LS, g9⟩ := hI
  have : nB = n := (nI_eq (by omega) (by omega)).mp (eB.symm.trans e)
  subst this
  have e2 : FI (wFI (wAL (fdS 13 12 0 f nB σ k) 145 0 z) 85 0 (nI 0)) 85 2 = nI nB := ((fdS_g (sF := fun o k => Nat.beq o 12) (sA := fun o => Nat.beq o 13) rfl rfl k).1 85 2 rfl).trans eB
  have e12 : FI (fdS 86 85 2 f nB (wFI (wAL (fdS 13 12 0 f nB σ k) 145 0 z) 85 0 (nI 0)) k) 12 0 = nI (nB + k) := by
    rw [(fdS_g (sF := fun o k => Nat.beq o 85) (sA := fun o => Nat.beq o 86) rfl rfl k).1 12 0 rfl]
    show FI (fdS 13 12 0 f nB σ k) 12 0 = _
    exact fdS_f eBc k
  have hIT : IT (fdS 86 85 2 f nB (wFI (wAL (fdS 13 12 0 f nB σ k) 145 0 z) 85 0 (nI 0)) k) := by
    refine ⟨⟨nB + k, hn, fdS_f e2 k, e12, fun j hj => ?_⟩, ?_, ?_⟩
    · rw [fdS_i, fdS_i, if_neg (by omega)]
      show AI (fdS 13 12 0 f nB σ k) 13 j = (if _ then _ else AI (fdS 13 12 0 f nB σ k) 86 j) ∧ IR 0 255 (if _ then _ else AI (fdS 13 12 0 f nB σ k) 86 j)
      rw [fdS_i, fdS_i]
      by_cases q : nB ≤ j
      · rw [if_pos ⟨rfl, q, hj⟩, if_pos ⟨rfl, q, hj⟩]
        exact ⟨rfl, hf _⟩
      · rw [if_neg (by omega), if_neg (by omega), if_neg (by omega)]
        exact hBy j (by omega)
    · rw [hg.1 12 1 rfl, hg.1 85 11 rfl]; exact eFa
    · rw [(hg.2 88 rfl).1]; exact eC10
  exact ⟨I0g hg rfl g0, hIT, IPg hg rfl rfl g2, IDg hg rfl rfl g3, ISg hg rfl rfl g4, IO_g hg rfl rfl g5, IF_g hg rfl rfl g6, IMg hg rfl rfl g7, IBg hg rfl g8, LS, ILg hg rfl rfl g9⟩
theorem op_feed (hI : Inv σ) : Op (fun d σ => Run false d 2 0 [some (.ref 0), some (.int a1), some (.int a2), some (.int a3), some (.int a4), some (.int a5)] [] σ) (fun d σ => Run false d 171 0 [some (.ref 85), some (.int a1), some (.int a2), some (.int a3), some (.int a4), some (.int a5), none, none] [] σ) σ isI (fun E => 0) := by
  have hI0 := hI
  obtain ⟨-, ⟨⟨nB, hB, eB, eBc, -⟩, -, -⟩, -⟩ := hI
  by_cases hn : nB + 20 ≤ 400
  case neg =>
    refine opV_of (.int (-1 : Int32)) σ (fun z => wFI (wAL σ 145 0 z) 85 0 (nI 0)) ⟨_, rfl⟩ (fun d => ?_) (fun z d => ?_) (fun z => Inv_tn (Inv_o hI0)) (fun z => rfl) (fun z => rfl) (fun z => Kp_eq rfl rfl)
    · show Run false (d + 40) 2 0 _ [] σ = _
      rw [s2_0, eBc, nI_add, oleF (by omega) (by omega), cond_false]
    · show Run false (d + 40) 171 0 _ [] (wAL σ 145 0 z) = _
      rw [s171_0, FI_la, eB, nI_add, oleF (by omega) (by omega), cond_false]
  · generalize hfe : fdB a1 a2 a3 a4 a5 = f
    obtain ⟨K, hK⟩ : ∃ K, K = 20 := ⟨20, rfl⟩
    have hc : ∀ d, Run false (d + 40) 2 0 [some (.ref 0), some (.int a1), some (.int a2), some (.int a3), some (.int a4), some (.int a5)] [] σ = some (.inl (some (.int (nI (nB + 20))), fdS 13 12 0 f nB σ K)) := fun d => by
      rw [hK]
      exact feed_C (d := d) eBc hn hfe
    have hi := fun z => feed_I (k := K) (f := f) (z := z) hI0 eB (by omega) (fun j => by rw [← hfe]; exact by_r)
    have hg := fun z => feed_g (σ := σ) (n := nB) (f := f) (z := z) K
    have e2 : FI (fdS 13 12 0 f nB σ K) 85 2 = nI nB := ((fdS_g (sF := fun o k => Nat.beq o 12) (sA := fun o => Nat.beq o 13) rfl rfl K).1 85 2 rfl).trans eB
    have hx : ∀ z, XX (fdS 86 85 2 f nB (wFI (wAL (fdS 13 12 0 f nB σ K) 145 0 z) 85 0 (nI 0)) K) = XX σ := fun z => by
      rw [fdS_x]
      show XX (fdS 13 12 0 f nB σ K) = XX σ
      rw [fdS_x]
    have hm : ∀ d z, Run false (d + 40) 171 0 [some (.ref 85), some (.int a1), some (.int a2), some (.int a3), some (.int a4), some (.int a5), none, none] [] (wAL (fdS 13 12 0 f nB σ K) 145 0 z) = some (.inl (some (.int (nI (nB + 20))), fdS 86 85 2 f nB (wFI (wAL (fdS 13 12 0 f nB σ K) 145 0 z) 85 0 (nI 0)) K)) := fun d z => by
      generalize fdS 13 12 0 f nB σ K = τ at e2 ⊢
      have e3 : FI (wAL τ 145 0 z) 85 2 = nI nB := e2
      have e4 : FI (wFI (wAL τ 145 0 z) 85 0 (nI 0)) 85 2 = nI nB := e2
      rw [s171_0, e3, nI_add, oleT hn (by omega), cond_true]
      rw [hK]
      exact feed_M e4 hn hfe
    have ho : ∀ z, AL (fdS 86 85 2 f nB (wFI (wAL (fdS 13 12 0 f nB σ K) 145 0 z) 85 0 (nI 0)) K) 145 0 = z := fun z => by
      rw [fdS_al]
      show AL (wAL _ 145 0 z) 145 0 = z
      exact AL_q
    have ht : ∀ z, FI (fdS 86 85 2 f nB (wFI (wAL (fdS 13 12 0 f nB σ K) 145 0 z) 85 0 (nI 0)) K) 85 0 = nI 0 := fun z => (fdS_g (sF := fun o k => Nat.beq o 85 && Nat.beq k 2) (sA := fun o => Nat.beq o 86) rfl rfl K).1 85 0 rfl
    exact opV_of (.int (nI (nB + 20))) _ _ ⟨_, rfl⟩ hc (fun z d => hm d z) hi ho ht (fun z => Kp_eq (hx z) ((hg z).2 999 rfl).1)
end FF
theorem op_fault {σ : PS} (hI : Inv σ) : Op (fun d σ => Run false d 4 0 [some (.ref 0)] [] σ) (fun d σ => Run false d 198 0 [some (.ref 85)] [] σ) σ isI (fun E => 0) := by
  have e := hI.2.1.2.1
  refine opV_of (.int (FI σ 12 1)) σ (fun z => wFI (wAL σ 145 0 z) 85 0 (nI 0)) ⟨_, rfl⟩ (fun d => ?_) (fun z d => ?_) (fun z => Inv_tn (Inv_o hI)) (fun z => rfl) (fun z => rfl) (fun z => Kp_eq rfl rfl)
  · show Run false (d + 40) 4 0 _ [] σ = _
    rw [s4_0]
  · show Run false (d + 40) 198 0 _ [] (wAL σ 145 0 z) = _
    rw [s198_0, FI_la, ← e]
