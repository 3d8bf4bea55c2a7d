/-! SOUNDNESS, R: the main induction's step -/
theorem bk_leX {ini : Bool} {n d k nx : Nat} {ls : List (Option Value)} {t : List Value} {o' o : PO} (h : bkF (fun pc' ls' st' σ' => run ini n d k pc' ls' st' σ') k nx ls t (some o') = some o) : leX ini (oX o') (oX o) := by
  unfold bkF at h
  rcases o' with ⟨_ | w, σ'⟩ | ⟨E, σ'⟩
  · exact run_leX ini _ _ _ _ _ _ _ _ h
  · exact run_leX ini _ _ _ _ _ _ _ _ h
  · dsimp only at h
    split at h
    · cases h; exact leX_rfl
    · exact run_leX ini _ _ _ _ _ _ _ _ h
theorem fe_cov {k pc : Nat} (hk : k < 307) (hz : Nat.beq (fe k pc).2.1 0 = false) (hi : (∃ ix, (fe k pc).1 = .invokevirtual ix) ∨ (∃ ix, (fe k pc).1 = .invokestatic ix) ∨ (∃ ix, (fe k pc).1 = .invokespecial ix)) : ∀ x ∈ m_hh k, pc < x.2.1 := by
  intro x hx
  have h2 := List.all_eq_true.mp hn_2 k (List.mem_range.mpr hk)
  have hp : pc < msz k ∧ fe k pc = fkk k pc := by
    unfold fe at hz ⊢
    cases e : Nat.ble (msz k) pc with
    | true => rw [e] at hz; cases hz
    | false => exact ⟨Nat.lt_of_not_le (fun q => by rw [Nat.ble_eq_true_of_le q] at e; cases e), rfl⟩
  have h3 : (List.range (msz k)).all (fun pc => hcv k pc) = true := by
    cases hm : m_hh k with
    | nil => rw [hm] at hx; cases hx
    | cons a t => rw [hm] at h2; exact h2
  have h4 := List.all_eq_true.mp h3 pc (List.mem_range.mpr hp.1)
  unfold hcv at h4
  rw [← hp.2] at h4
  rcases hi with ⟨ix, hi⟩ | ⟨ix, hi⟩ | ⟨ix, hi⟩ <;> (rw [hi] at h4; exact Nat.le_of_ble_eq_true (List.all_eq_true.mp h4 x hx))
set_option maxHeartbeats 8000000 in
theorem Snd_succ {l : Launch} {V : Nat → Nat} {G : Nat × Nat × Nat × Nat} {D : va_G} {cT : ClassId × ClassId × ClassId} {L : Nat} {xs : Nat → Int32} {ini : Bool} {n : Nat} (hS : Snd l V G D cT L xs ini n) : Snd l V G D cT L xs ini (n + 1) := by
  intro d k pc ls st σ σ0 o p e R s m args below meth c H locs cells slots lsM hrun hF hW hSt hsz hLV hle hc hs hRc hRs
  have hF' := hF
  obtain ⟨hk, hl, hx, hb, hml, hown, hts, hWs, ht, hlocks, hret, hnm, hR1, hR2⟩ := hF
  have hup := run_leX ini (n + 1) d k pc ls st σ o hrun
  have hup1 := hup.1
  have hup2 := hup.2.1
  have hle1 := hle.1
  have hle2 := hle.2.1
  have hcR : cells ≤ R.cells := by omega
  have hsR : slots ≤ R.slots := by omega
  have h0 : G.1 ≤ s.heap.size := hWs.2.2.2.1
  have hX := hWs.2.1
  have hbl : G.2.1 < s.heap.size := Nat.lt_of_lt_of_le hWs.2.2.1 h0
  have hb0 := hWs.2.2.1
  have hlsz : lsM.size = m_L k := hLV.1
  unfold run stepF at hrun
  have hcov0 := @fe_cov k pc hk
  generalize he : fe k pc = q at hrun hcov0
  obtain ⟨i, nx, r1, r2, r3, v⟩ := q
  dsimp only at hrun hcov0
  cases hz : Nat.beq nx 0 with
  | true => rw [hz] at hrun; cases hrun
  | false =>
  rw [hz] at hrun
  dsimp only [cond] at hrun
  have hcov := hcov0 hz
  clear hcov0
  obtain ⟨hd0, hnx0, hnx, hop⟩ := row_at he hz
  have go0 : ∀ (pc' : Nat) (ls' : List (Option Value)) (st' : List Value) (σ' : PS) (H1 : Heap) (locs1 : List Loc) (cells1 slots1 : Nat) (lsM' : Array Slot), run ini n d k pc' ls' st' σ' = some o → Wmd G D cT L xs ini σ' H1 → va_S (fun q : Nat => G.1 ≤ q) s.heap H1 locs1 → LV G lsM' (m_L k) ls' → leX ini (XX σ) (XX σ') → cells1 = cells + (xC (XX σ') - xC (XX σ)) → slots1 = slots + (xS (XX σ') - xS (XX σ)) → W p l e R s m args below meth c H1 locs1 cells1 slots1 (vx_MQ below (QcM G D cT L xs ini o) (XcM G D cT L xs ini o) args s (xC (oX o) - xC (XX σ0)) (xS (oX o) - xS (XX σ0)) (fun q => G.1 ≤ q)) (F0 m pc' lsM' (st'.map (cz G))) := by
    intro pc' ls' st' σ' H1 locs1 cells1 slots1 lsM' h hW' hS' hLV' hle' e1 e2
    have a1 := hle'.1
    have a2 := hle'.2.1
    refine hS d k pc' ls' st' σ' σ0 o p e R s m args below meth c H1 locs1 cells1 slots1 lsM' h hF' hW' hS' (fun q => ?_) hLV' (leX_tr hle hle') (by omega) (by omega) hRc hRs
    have := hsz q
    have := hle'.2.2 q
    omega
  have go : ∀ (pc' : Nat) (ls' : List (Option Value)) (st' : List Value) (lsM' : Array Slot), run ini n d k pc' ls' st' σ = some o → LV G lsM' (m_L k) ls' → W p l e R s m args below meth c H locs cells slots (vx_MQ below (QcM G D cT L xs ini o) (XcM G D cT L xs ini o) args s (xC (oX o) - xC (XX σ0)) (xS (oX o) - xS (XX σ0)) (fun q => G.1 ≤ q)) (F0 m pc' lsM' (st'.map (cz G))) := fun pc' ls' st' lsM' h hl' => go0 pc' ls' st' σ H locs cells slots lsM' h hW hSt hl' leX_rfl (by omega) (by omega)
  have hd : isTs i = false → decode (m_b k) pc = .ok (i, ilen i) := fun q => by
    have := hnx q
    rw [show nx - pc = ilen i by omega] at hd0
    exact hd0
  have ret : ∀ (w : Option Value), o = .inl (w, σ) → (W p l e R s m args below meth c H locs cells slots (vx_MQ below (QcM G D cT L xs ini o) (XcM G D cT L xs ini o) args s cells slots (fun q => G.1 ≤ q)) (F0 m pc lsM (st.map (cz G)))) → W p l e R s m args below meth c H locs cells slots (vx_MQ below (QcM G D cT L xs ini o) (XcM G D cT L xs ini o) args s (xC (oX o) - xC (XX σ0)) (xS (oX o) - xS (XX σ0)) (fun q => G.1 ≤ q)) (F0 m pc lsM (st.map (cz G))) := by
    intro w hw hk'
    have e1 : xC (oX o) - xC (XX σ0) = cells := by rw [hw, hc]; rfl
    have e2 : xS (oX o) - xS (XX σ0) = slots := by rw [hw, hs]; rfl
    rw [e1, e2]
    exact hk'
  have call : ∀ (ix : Nat), (i = .invokevirtual ix ∨ i = .invokestatic ix ∨ i = .invokespecial ix) → nx = pc + 3 → decode (m_b k) pc = .ok (i, 3) → Nat.ble 1000 r1 = false → clF ini (fun d' k' la st' σ' => run ini n d' k' 0 la st' σ') (fun pc' ls' st' σ' => run ini n d k pc' ls' st' σ') (fun pc' ls' st' σ' => run ini n d k pc' ls' st' σ') d k nx r1 r2 ls st σ = some o → W p l e R s m args below meth c H locs cells slots (vx_MQ below (QcM G D cT L xs ini o) (XcM G D cT L xs ini o) args s (xC (oX o) - xC (XX σ0)) (xS (oX o) - xS (XX σ0)) (fun q => G.1 ≤ q)) (F0 m pc lsM (st.map (cz G))) := by
    intro ix hi e3 hd3 hr1 hcl
    subst e3
    have hop' : rowOp k pc i (pc + 3) r1 r2 r3 .null = true := by
      rcases hi with rfl | rfl | rfl <;> exact hop
    have hr306 : r1 < 306 := by
      have h1 := op_own hi hop' hr1
      unfold chkOwn at h1
      simp only [Bool.and_eq_true, Nat.ble_eq] at h1
      omega
    have hcov' : ∀ x ∈ m_hh k, pc < x.2.1 := hcov (by rcases hi with rfl | rfl | rfl; exact Or.inl ⟨_, rfl⟩; exact Or.inr (Or.inl ⟨_, rfl⟩); exact Or.inr (Or.inr ⟨_, rfl⟩))
    refine so_cl hk hx hb hml hown hts hWs hW hSt hsz hlsz hi hd3 hop' hr1 ⟨hR1, hR2⟩ ?_ hcl ?_ ?_
    · intro d' as o' t e1 e2 e3 e4
      have g1 := run_leX ini _ _ _ _ _ _ _ _ e3
      have g2 := bk_leX e4
      have g3 := g1.1
      have g4 := g1.2.1
      have g5 := g2.1
      have g6 := g2.2.1
      exact ⟨Cnt_snd hS hl hr306 e2 e3, by omega, by omega⟩
    · intro t' σ' o' d' la H1 locs1 e1 e2 e3 e4 e5 e6
      have g1 := run_leX ini _ _ _ _ _ _ _ _ e1
      rw [← e2] at g1 ⊢
      exact go0 _ _ _ σ' H1 locs1 _ _ lsM e3 e4 e6 hLV g1 rfl rfl
    · intro t E σ' o' d' la H1 locs1 ce q e1 e2 e3 e4 e5 e6 e7 e8 e9 e10 e11
      have g1 := run_leX ini _ _ _ _ _ _ _ _ e1
      have g3 := g1.1
      have g4 := g1.2.1
      refine so_kx hk hx hb hown hts ht hlocks hcov' hWs hLV e3 e4 e9 e10 e11 (fun hh0 => ?_) (fun hh lsM' hh1 hLV1 => ?_)
      · rw [hh0] at e5
        cases e5
        have e2' : XX σ' = oX o' := e2
        have g5 : xC (XX σ') = xC (oX o') := by rw [e2']
        have g6 : xS (XX σ') = xS (oX o') := by rw [e2']
        refine ⟨fun U hU _ => ⟨(), ⟨e3, e4⟩, ⟨rfl, by rw [hU]; exact e6, fun q => by rw [hU]; exact e7 q⟩, e8.F hU⟩, e8.2.2, ?_, ?_⟩
        · show _ ≤ xC (XX σ') - _; omega
        · show _ ≤ xS (XX σ') - _; omega
      · rw [hh1] at e5
        rw [← e2] at g1 ⊢
        exact go0 _ _ _ σ' H1 locs1 _ _ lsM' e5 e6 e8 hLV1 g1 rfl rfl
  have jdk : ∀ (r : Option PO), (bif Nat.ble 1000 r1 then jdkF r1 st (fun st' => run ini n d k nx ls st' σ) else r) = some o → Nat.ble 1000 r1 = true → jdkF r1 st (fun st' => run ini n d k nx ls st' σ) = some o := by
    intro r h1 h2
    rw [h2] at h1
    exact h1
  cases i
  case iload_n j =>
    have e3 : nx = pc + 1 := hnx rfl
    subst e3
    dsimp only at hrun
    split at hrun
    · rename_i x hg
      exact lv_iload_n hx hb (hd rfl) (Nat.eq_of_beq_eq_true hop) (LV_at hLV hg) (go (pc + 1) ls (.int x :: st) lsM hrun hLV)
    · cases hrun
  case lload_n j =>
    have e3 : nx = pc + 1 := hnx rfl
    subst e3
    dsimp only at hrun
    split at hrun
    · rename_i x hg
      exact lv_lload_n hx hb (hd rfl) (Nat.eq_of_beq_eq_true hop) (LV_at hLV hg) (go (pc + 1) ls (.long x :: st) lsM hrun hLV)
    · cases hrun
  case aload_n j =>
    have e3 : nx = pc + 1 := hnx rfl
    subst e3
    dsimp only at hrun
    split at hrun
    · rename_i x hg
      exact lv_aload_n hx hb (hd rfl) (Nat.eq_of_beq_eq_true hop) (LV_at hLV hg) (go (pc + 1) ls (.ref x :: st) lsM hrun hLV)
    · cases hrun
  case iload j =>
    have e3 : nx = pc + 2 := hnx rfl
    subst e3
    have e4 : j = r1 := Nat.eq_of_beq_eq_true hop
    subst e4
    dsimp only at hrun
    split at hrun
    · rename_i x hg
      exact lv_iload hx hb (hd rfl) (LV_at hLV hg) (go (pc + 2) ls (.int x :: st) lsM hrun hLV)
    · cases hrun
  case lload j =>
    have e3 : nx = pc + 2 := hnx rfl
    subst e3
    have e4 : j = r1 := Nat.eq_of_beq_eq_true hop
    subst e4
    dsimp only at hrun
    split at hrun
    · rename_i x hg
      exact lv_lload hx hb (hd rfl) (LV_at hLV hg) (go (pc + 2) ls (.long x :: st) lsM hrun hLV)
    · cases hrun
  case aload j =>
    have e3 : nx = pc + 2 := hnx rfl
    subst e3
    have e4 : j = r1 := Nat.eq_of_beq_eq_true hop
    subst e4
    dsimp only at hrun
    split at hrun
    · rename_i x hg
      exact lv_aload hx hb (hd rfl) (LV_at hLV hg) (go (pc + 2) ls (.ref x :: st) lsM hrun hLV)
    · cases hrun
  case istore_n j =>
    have e3 : nx = pc + 1 := hnx rfl
    subst e3
    have hop2 : (Nat.beq j.val r1 && Nat.ble (r1 + 1) (m_L k)) = true := hop
    simp only [Bool.and_eq_true, Nat.beq_eq, Nat.ble_eq] at hop2
    dsimp only at hrun
    split at hrun
    · rename_i x t
      exact lv_istore_n hx hb (hd rfl) hop2.1 hLV (by omega) rfl (fun ls' hl' => go (pc + 1) (lst1 ls r1 (.int x)) t ls' hrun (LV_st1 (v := .int x) hl'))
    · cases hrun
  case astore_n j =>
    have e3 : nx = pc + 1 := hnx rfl
    subst e3
    have hop2 : (Nat.beq j.val r1 && Nat.ble (r1 + 1) (m_L k)) = true := hop
    simp only [Bool.and_eq_true, Nat.beq_eq, Nat.ble_eq] at hop2
    dsimp only at hrun
    split at hrun
    · rename_i x t
      exact lv_astore_n hx hb (hd rfl) hop2.1 hLV (by omega) rfl (fun ls' hl' => go (pc + 1) (lst1 ls r1 (.ref x)) t ls' hrun (LV_st1 (v := .ref x) hl'))
    · cases hrun
  case lstore_n j =>
    have e3 : nx = pc + 1 := hnx rfl
    subst e3
    have hop2 : (Nat.beq j.val r1 && Nat.ble (r1 + 2) (m_L k)) = true := hop
    simp only [Bool.and_eq_true, Nat.beq_eq, Nat.ble_eq] at hop2
    dsimp only at hrun
    split at hrun
    · rename_i x t
      exact lv_lstore_n hx hb (hd rfl) hop2.1 hLV (by omega) rfl (fun ls' hl' => go (pc + 1) (lst2 ls r1 (.long x)) t ls' hrun (LV_st2 (v := .long x) hl'))
    · cases hrun
  case istore j =>
    have e3 : nx = pc + 2 := hnx rfl
    subst e3
    have hop2 : (Nat.beq j r1 && Nat.ble (r1 + 1) (m_L k)) = true := hop
    simp only [Bool.and_eq_true, Nat.beq_eq, Nat.ble_eq] at hop2
    obtain ⟨rfl, hop2⟩ := hop2
    dsimp only at hrun
    split at hrun
    · rename_i x t
      exact lv_istore hx hb (hd rfl) hLV (by omega) rfl (fun ls' hl' => go (pc + 2) (lst1 ls j (.int x)) t ls' hrun (LV_st1 (v := .int x) hl'))
    · cases hrun
  case astore j =>
    have e3 : nx = pc + 2 := hnx rfl
    subst e3
    have hop2 : (Nat.beq j r1 && Nat.ble (r1 + 1) (m_L k)) = true := hop
    simp only [Bool.and_eq_true, Nat.beq_eq, Nat.ble_eq] at hop2
    obtain ⟨rfl, hop2⟩ := hop2
    dsimp only at hrun
    split at hrun
    · rename_i x t
      exact lv_astore hx hb (hd rfl) hLV (by omega) rfl (fun ls' hl' => go (pc + 2) (lst1 ls j (.ref x)) t ls' hrun (LV_st1 (v := .ref x) hl'))
    · cases hrun
  case lstore j =>
    have e3 : nx = pc + 2 := hnx rfl
    subst e3
    have hop2 : (Nat.beq j r1 && Nat.ble (r1 + 2) (m_L k)) = true := hop
    simp only [Bool.and_eq_true, Nat.beq_eq, Nat.ble_eq] at hop2
    obtain ⟨rfl, hop2⟩ := hop2
    dsimp only at hrun
    split at hrun
    · rename_i x t
      exact lv_lstore hx hb (hd rfl) hLV (by omega) rfl (fun ls' hl' => go (pc + 2) (lst2 ls j (.long x)) t ls' hrun (LV_st2 (v := .long x) hl'))
    · cases hrun
  case iinc j a =>
    have e3 : nx = pc + 3 := hnx rfl
    subst e3
    have hop2 : (Nat.beq j r1 && (Nat.ble (r1 + 1) (m_L k) && decide (v = .int (Int32.ofInt a)))) = true := hop
    simp only [Bool.and_eq_true, Nat.beq_eq, Nat.ble_eq, decide_eq_true_eq] at hop2
    obtain ⟨rfl, hop2, rfl⟩ := hop2
    dsimp only at hrun
    split at hrun
    · rename_i x hg
      obtain ⟨z, hz2⟩ := List.getElem?_of_mem (asl_of (G := G) (i := 0) hg)
      rw [Nat.zero_add] at hz2
      exact lv_iinc hx hb (hd rfl) hLV hz2 rfl (by omega) rfl (fun ls' hl' => go (pc + 3) (lst1 ls j (.int (x + Int32.ofInt a))) st ls' hrun (LV_st1 (v := .int (x + Int32.ofInt a)) hl'))
    · cases hrun
  case goto off =>
    exact lv_goto hx hb (hd rfl) (of_decide_eq_true hop) (go r1 ls st lsM hrun hLV)
  case ifCond cc off =>
    have e3 : nx = pc + 3 := hnx rfl
    subst e3
    refine so_br hx hb (hd rfl) (fun off' h => ?_) hrun (fun t h => go r1 ls t lsM h hLV) (fun t h => go (pc + 3) ls t lsM h hLV)
    rcases h with ⟨_, h⟩ | ⟨_, h⟩
    · cases h; exact of_decide_eq_true hop
    · cases h
  case if_icmp cc off =>
    have e3 : nx = pc + 3 := hnx rfl
    subst e3
    refine so_br hx hb (hd rfl) (fun off' h => ?_) hrun (fun t h => go r1 ls t lsM h hLV) (fun t h => go (pc + 3) ls t lsM h hLV)
    rcases h with ⟨_, h⟩ | ⟨_, h⟩
    · cases h
    · cases h; exact of_decide_eq_true hop
  case tableswitch dflt lo hi offs =>
    have hop2 : (decide (0 ≤ (pc : Int) + dflt) && (decide (lo ≤ hi) && (Nat.beq offs.size (hi - lo + 1).toNat && offs.toList.all (fun off => decide (0 ≤ (pc : Int) + off))))) = true := hop
    simp only [Bool.and_eq_true, Nat.beq_eq, decide_eq_true_eq] at hop2
    obtain ⟨o1, o2, o3, o4⟩ := hop2
    dsimp only at hrun
    split at hrun
    · rename_i x t
      by_cases hcc : x.toInt < lo ∨ hi < x.toInt
      · unfold tswF at hrun
        rw [if_pos hcc] at hrun
        exact lv_tableOut hx hb hd0 hcc (Int.toNat_of_nonneg o1).symm (go _ ls t lsM hrun hLV)
      · have hlt : (x.toInt - lo).toNat < offs.size := by omega
        have hg : offs[(x.toInt - lo).toNat]? = some offs[(x.toInt - lo).toNat] := Array.getElem?_eq_getElem hlt
        have h9 : 0 ≤ (pc : Int) + offs[(x.toInt - lo).toNat] := of_decide_eq_true (List.all_eq_true.mp o4 _ (Array.getElem_mem_toList hlt))
        unfold tswF at hrun
        rw [if_neg hcc, hg] at hrun
        exact lv_tableIn hx hb hd0 (fun q => hcc (Or.inl q)) (fun q => hcc (Or.inr q)) hg (Int.toNat_of_nonneg h9).symm (go _ ls t lsM hrun hLV)
    · cases hrun
  case getfield ix =>
    have e3 : nx = pc + 3 := hnx rfl
    subst e3
    dsimp only at hrun
    split at hrun
    · rename_i a t
      exact so_gf hk hx hb hown hts hWs.1 hW (hd rfl) hop hrun (fun w h => go (pc + 3) ls (w :: t) lsM h hLV)
    · cases hrun
  case putfield ix =>
    have e3 : nx = pc + 3 := hnx rfl
    subst e3
    dsimp only at hrun
    split at hrun
    · rename_i w a t
      exact so_pf hk hx hb hown hts hnm hWs.1 hW hSt (hd rfl) hop hrun (fun σ' H1 locs1 h hW' hS' q1 q2 q3 => go0 (pc + 3) ls t σ' H1 locs1 cells slots lsM h hW' hS' hLV ⟨by omega, by omega, fun _ => by omega⟩ (by omega) (by omega))
    · cases hrun
  case arraylength =>
    have e3 : nx = pc + 1 := hnx rfl
    subst e3
    dsimp only at hrun
    split at hrun
    · rename_i a t
      exact so_al hx hb hWs.1 hX hbl hb0 hW hSt (hd rfl) hrun (fun h => go (pc + 1) ls (.int (nI (alk ini σ a).2) :: t) lsM h hLV)
    · cases hrun
  case iaload =>
    have e3 : nx = pc + 1 := hnx rfl
    subst e3
    exact so_ld hx hb hWs.1 hX hbl hb0 hW hSt (hd rfl) (Or.inl ⟨rfl, rfl⟩) hrun (fun t h => go (pc + 1) ls t lsM h hLV)
  case laload =>
    have e3 : nx = pc + 1 := hnx rfl
    subst e3
    exact so_ld hx hb hWs.1 hX hbl hb0 hW hSt (hd rfl) (Or.inr (Or.inl ⟨rfl, rfl⟩)) hrun (fun t h => go (pc + 1) ls t lsM h hLV)
  case baload =>
    have e3 : nx = pc + 1 := hnx rfl
    subst e3
    exact so_ld hx hb hWs.1 hX hbl hb0 hW hSt (hd rfl) (Or.inr (Or.inr ⟨rfl, rfl⟩)) hrun (fun t h => go (pc + 1) ls t lsM h hLV)
  case iastore =>
    have e3 : nx = pc + 1 := hnx rfl
    subst e3
    exact so_st hx hb hWs.1 hW hSt (hd rfl) (Or.inl ⟨rfl, rfl⟩) hrun (fun t σ' H1 locs1 h hW' hS' q => go0 (pc + 1) ls t σ' H1 locs1 cells slots lsM h hW' hS' hLV (by rw [q]; exact leX_rfl) (by rw [q]; omega) (by rw [q]; omega))
  case lastore =>
    have e3 : nx = pc + 1 := hnx rfl
    subst e3
    exact so_st hx hb hWs.1 hW hSt (hd rfl) (Or.inr (Or.inl ⟨rfl, rfl⟩)) hrun (fun t σ' H1 locs1 h hW' hS' q => go0 (pc + 1) ls t σ' H1 locs1 cells slots lsM h hW' hS' hLV (by rw [q]; exact leX_rfl) (by rw [q]; omega) (by rw [q]; omega))
  case bastore =>
    have e3 : nx = pc + 1 := hnx rfl
    subst e3
    exact so_st hx hb hWs.1 hW hSt (hd rfl) (Or.inr (Or.inr ⟨rfl, rfl⟩)) hrun (fun t σ' H1 locs1 h hW' hS' q => go0 (pc + 1) ls t σ' H1 locs1 cells slots lsM h hW' hS' hLV (by rw [q]; exact leX_rfl) (by rw [q]; omega) (by rw [q]; omega))
  case invokevirtual ix =>
    cases hr1 : Nat.ble 1000 r1 with
    | false => exact call ix (Or.inl rfl) (hnx rfl) (hd rfl) hr1 hrun
    | true =>
      have e3 : nx = pc + 3 := hnx rfl
      subst e3
      exact so_jv hk hx hb hml hlsz hown hts hWs hSt ⟨by omega, by omega⟩ hcR hsR (Nat.le_of_ble_eq_true hr1) (hd rfl) hop (jdk _ hrun hr1) (fun t locs1 h hS1 => go0 (pc + 3) ls t σ H locs1 cells slots lsM h hW hS1 hLV leX_rfl (by omega) (by omega))
  case invokestatic ix =>
    cases hr1 : Nat.ble 1000 r1 with
    | false => exact call ix (Or.inr (Or.inl rfl)) (hnx rfl) (hd rfl) hr1 hrun
    | true =>
      have e3 : nx = pc + 3 := hnx rfl
      subst e3
      exact so_js hk hx hb hml hlsz hown hts ⟨by omega, by omega⟩ hcR hsR (Nat.le_of_ble_eq_true hr1) (hd rfl) hop (jdk _ hrun hr1) (fun t h => go (pc + 3) ls t lsM h hLV)
  case invokespecial ix =>
    cases hr1 : Nat.ble 1000 r1 with
    | false => exact call ix (Or.inr (Or.inr rfl)) (hnx rfl) (hd rfl) hr1 hrun
    | true =>
      have e3 : nx = pc + 3 := hnx rfl
      subst e3
      exact so_ji hk hx hb hml hlsz hown hts ⟨by omega, by omega⟩ (Nat.le_of_ble_eq_true hr1) (hd rfl) hop (jdk _ hrun hr1) (fun t h => go (pc + 3) ls t lsM h hLV)
  case new ix =>
    have e3 : nx = pc + 3 := hnx rfl
    subst e3
    dsimp only at hrun
    cases hr1 : Nat.ble 100 r1 with
    | true =>
      rw [hr1] at hrun
      dsimp only [cond] at hrun
      cases ini with
      | true => cases hrun
      | false =>
        dsimp only [cond] at hrun
        split at hrun
        · cases hrun
          have e4 : xC (oX (.inr (r1 - 100, thF σ))) = xC (XX σ) + 1 := rfl
          have e5 : xS (oX (.inr (r1 - 100, thF σ))) = xS (XX σ) + 6 := rfl
          rw [e4] at hRc
          rw [e5] at hRs
          refine so_th (o := .inl (none, σ)) (args' := args) hk hl hx hb hml hown hts hlocks ht hlsz ⟨by omega, by omega⟩ ⟨by omega, by omega⟩ hWs hW hSt (hd rfl) hr1 hop ?_ ?_
          · show _ ≤ xC (XX σ) + 1 - xC (XX σ0); omega
          · show _ ≤ xS (XX σ) + 6 - xS (XX σ0); omega
        · cases hrun
    | false =>
      rw [hr1] at hrun
      dsimp only [cond] at hrun
      have hb2 : xC (XX σ) + 1 ≤ xC (oX o) ∧ xS (XX σ) + r2 ≤ xS (oX o) := by
        have h' := hrun
        unfold nwF at h'
        obtain ⟨-, h'⟩ := bif_c h'
        have g := run_leX ini _ _ _ _ _ _ _ _ h'
        exact ⟨g.1, g.2.1⟩
      exact so_nw hk hx hb hown hts hWs.1 hW hSt h0 hsz (hd rfl) hr1 hop hrun (by omega) (by omega) (fun σ' H1 locs1 a h hW' hS' q1 q2 q3 => go0 (pc + 3) ls (.ref a :: st) σ' H1 locs1 (cells + 1) (slots + r2) lsM h hW' hS' hLV ⟨by omega, by omega, fun _ => by omega⟩ (by omega) (by omega))
  case newarray at_ =>
    have e3 : nx = pc + 2 := hnx rfl
    subst e3
    dsimp only at hrun
    split at hrun
    · rename_i a t
      have hb2 : xC (XX σ) + 1 ≤ xC (oX o) ∧ xS (XX σ) + (arrk (xN (XX σ))).2 ≤ xS (oX o) := by
        have h' := hrun
        unfold naF at h'
        obtain ⟨-, h'⟩ := bif_c h'
        have g := run_leX ini _ _ _ _ _ _ _ _ h'
        exact ⟨g.1, g.2.1⟩
      exact so_na (r2 := r2) (r3 := r3) hx hb hts hWs.1 hW hSt h0 hsz (hd rfl) hop hrun (by omega) (by omega) (fun σ' H1 locs1 a h hW' hS' q1 q2 q3 => go0 (pc + 2) ls (.ref a :: t) σ' H1 locs1 (cells + 1) (slots + (arrk (xN (XX σ))).2) lsM h hW' hS' hLV ⟨by omega, by omega, fun _ => by omega⟩ (by omega) (by omega))
    · cases hrun
  case ireturn =>
    have ho : ∃ w, o = .inl (w, σ) := by
      dsimp only at hrun
      split at hrun
      · rcases ex_bif hrun with h | h
        · cases h; exact ⟨_, rfl⟩
        · rcases ex_bif h with h | h
          · cases h; exact ⟨_, rfl⟩
          · cases h
      · cases hrun
    obtain ⟨w, ho⟩ := ho
    refine ret w ho (hsz_eq hW hSt h0 hsz fun hq => ?_)
    exact so_iret hx hb hret hlocks hW hSt hq (hd rfl) hop hrun
  case lreturn =>
    have ho : ∃ w, o = .inl (w, σ) := by
      dsimp only at hrun
      split at hrun
      · cases hrun; exact ⟨_, rfl⟩
      · cases hrun
    obtain ⟨w, ho⟩ := ho
    refine ret w ho (hsz_eq hW hSt h0 hsz fun hq => ?_)
    exact so_lret hx hb hret hlocks hW hSt hq (hd rfl) hop hrun
  case return_ =>
    have ho : ∃ w, o = .inl (w, σ) := by
      dsimp only at hrun
      split at hrun
      · cases hrun; exact ⟨_, rfl⟩
      · cases hrun
    obtain ⟨w, ho⟩ := ho
    refine ret w ho (hsz_eq hW hSt h0 hsz fun hq => ?_)
    exact so_vret hx hb hret hlocks hW hSt hq (hd rfl) hop hrun
  all_goals first
    | (have e3 := hnx rfl
       subst e3
       exact so_ar hk hx hb hown hts hWs.2.2.2.2.1 hWs.2.2.2.2.2.1 (hd rfl) hop hrun (fun t h => go _ ls t lsM h hLV))
theorem Snd_all {l : Launch} {V : Nat → Nat} {G : Nat × Nat × Nat × Nat} {D : va_G} {cT : ClassId × ClassId × ClassId} {L : Nat} {xs : Nat → Int32} {ini : Bool} (n : Nat) : Snd l V G D cT L xs ini n := by
  induction n with
  | zero => exact Snd_0
  | succ n ih => exact Snd_succ ih
/-- a run gives the contract -/
theorem Cnt_run {l : Launch} {V : Nat → Nat} {G : Nat × Nat × Nat × Nat} {D : va_G} {cT : ClassId × ClassId × ClassId} {L : Nat} {xs : Nat → Int32} {ini : Bool} {d k : Nat} {As : List Value} {σ : PS} {o : PO} (hl : l.stackTraces = false) (hk : k < 306) (hlen : (argl As).length ≤ m_L k) (h : Run ini d k 0 (padl (m_L k) (argl As)) [] σ = some o) : Cnt l V G D cT L xs ini d k As σ o := by
  obtain ⟨n, hn⟩ := Run_iff.mp h
  exact Cnt_snd (Snd_all n) hl hk hlen hn
