/-! THE LAW: the walk of its body -/
theorem d306_0 : decode (m_b 306) 0 = .ok (.new 8, 3) ∧ rowOp 306 0 (.new 8) 3 11 15 124 (.null) = true := by
  have h := row_at (k := 306) (pc := 0) (i := .new 8) (nx := 3) (r1 := 11) (r2 := 15) (r3 := 124) (v := .null) rfl rfl
  exact ⟨h.1, h.2.2.2⟩
theorem d306_3 : decode (m_b 306) 3 = .ok (.dup, 1) ∧ rowOp 306 3 (.dup) 4 0 0 0 (.null) = true := by
  have h := row_at (k := 306) (pc := 3) (i := .dup) (nx := 4) (r1 := 0) (r2 := 0) (r3 := 0) (v := .null) rfl rfl
  exact ⟨h.1, h.2.2.2⟩
theorem d306_4 : decode (m_b 306) 4 = .ok (.invokespecial 143, 3) ∧ rowOp 306 4 (.invokespecial 143) 7 0 11281 126 (.null) = true := by
  have h := row_at (k := 306) (pc := 4) (i := .invokespecial 143) (nx := 7) (r1 := 0) (r2 := 11281) (r3 := 126) (v := .null) rfl rfl
  exact ⟨h.1, h.2.2.2⟩
theorem d306_7 : decode (m_b 306) 7 = .ok (.astore_n 1, 1) ∧ rowOp 306 7 (.astore_n 1) 8 1 0 0 (.null) = true := by
  have h := row_at (k := 306) (pc := 7) (i := .astore_n 1) (nx := 8) (r1 := 1) (r2 := 0) (r3 := 0) (v := .null) rfl rfl
  exact ⟨h.1, h.2.2.2⟩
theorem d306_8 : decode (m_b 306) 8 = .ok (.new 144, 3) ∧ rowOp 306 8 (.new 144) 11 12 93 1591 (.null) = true := by
  have h := row_at (k := 306) (pc := 8) (i := .new 144) (nx := 11) (r1 := 12) (r2 := 93) (r3 := 1591) (v := .null) rfl rfl
  exact ⟨h.1, h.2.2.2⟩
theorem d306_11 : decode (m_b 306) 11 = .ok (.dup, 1) ∧ rowOp 306 11 (.dup) 12 0 0 0 (.null) = true := by
  have h := row_at (k := 306) (pc := 11) (i := .dup) (nx := 12) (r1 := 0) (r2 := 0) (r3 := 0) (v := .null) rfl rfl
  exact ⟨h.1, h.2.2.2⟩
theorem d306_12 : decode (m_b 306) 12 = .ok (.invokespecial 146, 3) ∧ rowOp 306 12 (.invokespecial 146) 15 167 12305 1593 (.null) = true := by
  have h := row_at (k := 306) (pc := 12) (i := .invokespecial 146) (nx := 15) (r1 := 167) (r2 := 12305) (r3 := 1593) (v := .null) rfl rfl
  exact ⟨h.1, h.2.2.2⟩
theorem d306_15 : decode (m_b 306) 15 = .ok (.astore_n 2, 1) ∧ rowOp 306 15 (.astore_n 2) 16 2 0 0 (.null) = true := by
  have h := row_at (k := 306) (pc := 15) (i := .astore_n 2) (nx := 16) (r1 := 2) (r2 := 0) (r3 := 0) (v := .null) rfl rfl
  exact ⟨h.1, h.2.2.2⟩
theorem d306_16 : decode (m_b 306) 16 = .ok (.iconst 1, 1) ∧ rowOp 306 16 (.iconst 1) 17 0 0 0 (.int 1) = true := by
  have h := row_at (k := 306) (pc := 16) (i := .iconst 1) (nx := 17) (r1 := 0) (r2 := 0) (r3 := 0) (v := .int 1) rfl rfl
  exact ⟨h.1, h.2.2.2⟩
theorem d306_17 : decode (m_b 306) 17 = .ok (.newarray .long, 2) ∧ rowOp 306 17 (.newarray .long) 19 2 0 0 (.null) = true := by
  have h := row_at (k := 306) (pc := 17) (i := .newarray .long) (nx := 19) (r1 := 2) (r2 := 0) (r3 := 0) (v := .null) rfl rfl
  exact ⟨h.1, h.2.2.2⟩
theorem d306_19 : decode (m_b 306) 19 = .ok (.astore_n 3, 1) ∧ rowOp 306 19 (.astore_n 3) 20 3 0 0 (.null) = true := by
  have h := row_at (k := 306) (pc := 19) (i := .astore_n 3) (nx := 20) (r1 := 3) (r2 := 0) (r3 := 0) (v := .null) rfl rfl
  exact ⟨h.1, h.2.2.2⟩
theorem d306_20 : decode (m_b 306) 20 = .ok (.iconst 0, 1) ∧ rowOp 306 20 (.iconst 0) 21 0 0 0 (.int 0) = true := by
  have h := row_at (k := 306) (pc := 20) (i := .iconst 0) (nx := 21) (r1 := 0) (r2 := 0) (r3 := 0) (v := .int 0) rfl rfl
  exact ⟨h.1, h.2.2.2⟩
theorem d306_21 : decode (m_b 306) 21 = .ok (.istore 4, 2) ∧ rowOp 306 21 (.istore 4) 23 4 0 0 (.null) = true := by
  have h := row_at (k := 306) (pc := 21) (i := .istore 4) (nx := 23) (r1 := 4) (r2 := 0) (r3 := 0) (v := .null) rfl rfl
  exact ⟨h.1, h.2.2.2⟩
theorem mb306 : m_b 306 = code := rfl
theorem mo306 : m_own 306 = R_law := rfl
theorem mL306 : m_L 306 = 8 := rfl
theorem mr306 : m_ret 306 = ret := rfl
theorem mh306 : m_hh 306 = [] := rfl
theorem mi306 : isInit 306 = false := rfl
def sg0 (L : Nat) (xs : Nat → Int32) : PS := (z32, z64, a0 xs, z64, 0, 0, 0, L, fun _ _ => false)
def sg1 (L : Nat) (xs : Nat → Int32) : PS := (z32, z64, a0 xs, z64, 1, 15, 1, L, r0_c)
def sg2 (L : Nat) (xs : Nat → Int32) : PS := (f1_c, z64, a1 xs, z64, 85, 13728, 85, L, r1_c)
def sg3 (L : Nat) (xs : Nat → Int32) : PS := (f1_c, z64, a1 xs, z64, 86, 13821, 86, L, uo r1_c 85 false)
def sg4 (L : Nat) (xs : Nat → Int32) : PS := (f3_c, z64, a1 xs, z64, 145, 30611, 145, L, r3_c)
def sg5 (L : Nat) (xs : Nat → Int32) : PS := (f3_c, z64, a1 xs, z64, 146, 30612, 146, L, r3_c)
def sgT (L : Nat) (xs : Nat → Int32) : PS := (f3_c, z64, a1 xs, z64, 146, 30612, 146, L, fun _ _ => true)
theorem uo_f3 : uo f1_c 85 0 = f1_c := uo_f1 rfl
theorem nw_1 {L : Nat} {xs : Nat → Int32} : nwS (sg0 L xs) 15 = sg1 L xs := by
  show (uo z32 0 0, uo z64 0 0, a0 xs, z64, 0 + 1, 0 + 15, 0 + 1, L, uo (fun _ _ => false) 0 false) = _
  rw [uo_z32, uo_z64]
  rfl
theorem nw_3 {L : Nat} {xs : Nat → Int32} : nwS (sg2 L xs) 93 = sg3 L xs := by
  show (uo f1_c 85 0, uo z64 85 0, a1 xs, z64, 85 + 1, 13728 + 93, 85 + 1, L, uo r1_c 85 false) = _
  rw [uo_f3, uo_z64]
  rfl
theorem na_5 {L : Nat} {xs : Nat → Int32} : naS (sg4 L xs) = sg5 L xs := by
  show (f3_c, z64, uo (a1 xs) 145 0, uo z64 145 0, 145 + 1, 30611 + 1, 145 + 1, L, r3_c) = _
  rw [uo_z64, show uo (a1 xs) 145 0 = a1 xs from uo_a1 rfl rfl]
  rfl
/-- what goes on behind a constructor's call -/
noncomputable def rjK (q : Nat) : Nat → List (Option Value) → List Value → PS → Option PO := fun _ _ t σ => bif obl (t = [.ref q]) then some (.inl (none, σ)) else none
theorem rjK_of {q nx : Nat} {ls : List (Option Value)} {t : List Value} {σ : PS} {o : PO} (h : rjK q nx ls t σ = some o) : t = [.ref q] ∧ o = .inl (none, σ) := by
  unfold rjK at h
  cases e : obl (t = [.ref q]) with
  | false => rw [e] at h; cases h
  | true => rw [e] at h; exact ⟨(obl_iff _).mp e, (Option.some.inj h).symm⟩
theorem rjK_at {q nx : Nat} {ls : List (Option Value)} {σ : PS} : rjK q nx ls [.ref q] σ = some (.inl (none, σ)) := by
  unfold rjK
  rw [obl_t rfl]
  rfl
theorem hnd306 : (List.range 5).all (fun E => Nat.beq (hnd 306 E) 0) = true := by decide +kernel
/-- what a call comes back with, when the call goes on as rjK says -/
theorem bk_K {q nx : Nat} {ls : List (Option Value)} {t : List Value} {σ : PS} {o' : PO} (h : bkF (rjK q) 306 nx ls t (some o') = some (.inl (none, σ))) : oX o' = XX σ := by
  unfold bkF at h
  rcases o' with ⟨_ | w, τ⟩ | ⟨E, τ⟩
  · have h : rjK q nx ls t τ = some (.inl (none, σ)) := h
    have := (rjK_of h).2; cases this; rfl
  · have h : rjK q nx ls (w :: t) τ = some (.inl (none, σ)) := h
    have := (rjK_of h).2; cases this; rfl
  · dsimp only at h
    split at h
    · cases h
    · have := (rjK_of h).2; cases this; rfl
theorem W_imp {p : Program} {l : Launch} {e : Env} {R : Room} {s : State} {m : MethodId} {args : Array Value} {below : List Frame} {meth : Method} {c : Code} {H : Heap} {locs : List Loc} {cells slots : Nat} {Q Q' : State → Prop} {g : JFrame} (h : W p l e R s m args below meth c H locs cells slots Q g) (hq : ∀ t, Q t → Q' t) : W p l e R s m args below meth c H locs cells slots Q' g := by
  intro T hT X
  obtain ⟨t, a, b⟩ := h T hT X
  exact ⟨t, a, hq t b⟩
/-- the loop, on the machine -/
theorem walk_23 {p : Program} {l : Launch} {e : Env} {s : State} {m : MethodId} {below : List Frame} {meth : Method} {c : Code} {V : Nat → Nat} {G : Nat × Nat × Nat × Nat} {D : va_G} {cT : ClassId × ClassId × ClassId} {b L : Nat} {xs : Nat → Int32} {H : Heap} {locs : List Loc} {ls : Array Slot} (hL : L ≤ 4096) (hG1 : G.1 = s.heap.size) (hF : Frm p l room_1 s m #[Value.ref b] meth c V G D cT L xs 400 306) (hW : Wmd G D cT L xs true (sg5 L xs) H) (hS : va_S (fun q : Nat => G.1 ≤ q) s.heap H locs) (hLV : LV G ls 8 (lLs (nI 0) none none none)) :
    W p l e room_1 s m #[Value.ref b] below meth c H locs 146 30612 (lw_Z below #[Value.ref b] s) (F0 m 23 ls []) := by
  obtain ⟨τ, hrun, q1, q2⟩ := law_lp (d := 398) (by decide) 512 0 (sgT L xs) none none none inv_T hL (by decide) (show L < 0 + 8 * 512 + 8 by omega)
  have q1 : xC (XX τ) ≤ 146 + 512 := q1
  have q2 : xS (XX τ) ≤ 30612 + 6 * 512 := q2
  obtain ⟨n, hn⟩ := Run_iff.mp hrun
  refine W_imp (Snd_all (l := l) (V := V) (G := G) (D := D) (cT := cT) (L := L) (xs := xs) (ini := false) n 400 306 23 (lLs (nI 0) none none none) [] (sgT L xs) (sg0 L xs) (.inl (some (.int (nI 1)), τ)) p e room_1 s m #[Value.ref b] below meth c H locs 146 30612 ls hn hF (wm_T hW) hS (fun h => by cases h) hLV ⟨Nat.zero_le _, Nat.zero_le _, fun h => by cases h⟩ rfl rfl (show xC (XX τ) - 0 ≤ 601024 by omega) (show xS (XX τ) - 0 ≤ 7293034 by omega)) ?_
  rintro t ⟨oc, r1, r2, r3⟩
  refine ⟨oc, r1, r2, ?_⟩
  rcases r3 with ⟨hQ, L', hF', hfree⟩ | ⟨q, -, E, ce, L', hXc, -⟩
  · obtain ⟨⟨r, u, e1, e2, -⟩, -⟩ := hQ
    have e2 : r = nI 1 := e2
    subst e2
    exact ⟨e1, hF'.1, hF'.2.1, same_forget hF'.2.2 (fun q hq => by rw [← hG1]; exact hfree q hq) (show xC (XX τ) - 0 ≤ 601024 by omega) (show xS (XX τ) - 0 ≤ 7293034 by omega)⟩
  · obtain ⟨u, hf, -⟩ := hXc
    exact hf.elim
set_option maxHeartbeats 8000000 in
set_option maxRecDepth 100000 in
theorem whole_start {p : Program} {e : Env} {s : State} {m : MethodId} {below : List Frame} {meth : Method} {c : Code} (l : Launch) (hflags : l.flags = flags0) {b L : Nat} {xs : Nat → Int32} (hL : L ≤ 4096) (C0 : lw_At p s m meth c b L xs) : W p l e room_1 s m #[Value.ref b] below meth c s.heap [] 0 0 (lw_Z below #[Value.ref b] s) (entryFrame m ([Value.ref b] : List Value).toArray 8) := by
  obtain ⟨V, G, D, cT, hWs, hG1, hG2⟩ := ws_s C0
  obtain ⟨hx, hb, hr, hml, hown, hts, hX, hbl, hlocks, hgv, hxt⟩ := id C0
  have hb : c.code = m_b 306 := hb.trans mb306.symm
  have hown : s.vm.findClass (m_own 306) = some m.cls := by rw [mo306]; exact hown
  have hml : c.maxLocals = m_L 306 := hml
  have hgw : ∀ w ∈ gw, w.before #[Value.ref b] s = true := fun w hw => hts w (gw_sub hw)
  have hl : l.stackTraces = false := by
    show (!l.flags.contains noTraceFlag) = false
    rw [hflags]
    decide +kernel
  have h0 : G.1 ≤ s.heap.size := Nat.le_of_eq hG1
  have hS : va_S (fun q : Nat => G.1 ≤ q) s.heap s.heap [] := va_S.rf
  have hW : Wmd G D cT L xs true (sg0 L xs) s.heap := ⟨fun k q h => absurd (wsO_in h).1 (Nat.not_lt_zero k), Nat.zero_le _, fun h => (by cases h), rfl, rfl⟩
  have e0 : ([Value.ref b] : List Value) = [Value.ref 999].map (cz G) := by
    show _ = [Value.ref (adr G 999)]
    rw [show adr G 999 = G.2.1 from rfl, hG2]
  obtain ⟨ls, e1, hLV⟩ := LV_entry (G := G) (m := m) (as := [.ref 999]) (n := 8) (by decide)
  rw [← e0] at e1
  rw [e1]
  have hLV : LV G ls 8 [some (.ref 999), none, none, none, none, none, none, none] := hLV
  have hk : (306 : Nat) < 307 := by decide
  have hR : 400 + 10 ≤ room_1.frames ∧ 100 * 400 + 200 ≤ room_1.locals := by decide
  refine so_nw (k := 306) (pc := 0) (r1 := 11) (r2 := 15) (r3 := 124) (st := []) (K := fun q σ' => some (.inl (some (.ref q), σ'))) (o := .inl (some (.ref 0), nwS (sg0 L xs) 15)) hk hx hb hown hgw hWs.1 hW hS h0 (fun _ => by rw [hG1]; exact Nat.le_of_eq rfl) d306_0.1 rfl d306_0.2 rfl (Nat.le_of_ble_eq_true rfl) (Nat.le_of_ble_eq_true rfl) (fun σ1 H1 locsH1 a hK hW1 hS1 _ _ _ => ?_)
  have hK : (some (Sum.inl (some (Value.ref a), σ1)) : Option PO) = some (Sum.inl (some (Value.ref 0), nwS (sg0 L xs) 15)) := hK
  cases hK
  rw [nw_1] at hW1
  clear hW hS
  have hW := hW1
  have hS := hS1
  show W p l e room_1 s m #[Value.ref b] below meth c H1 locsH1 1 15 (lw_Z below #[Value.ref b] s) (F0 m 3 ls [.ref (adr G 0)])
  refine lv_dup hx hb d306_3.1 rfl ?_
  show W p l e room_1 s m #[Value.ref b] below meth c H1 locsH1 1 15 (lw_Z below #[Value.ref b] s) (F0 m 4 ls [.ref (adr G 0), .ref (adr G 0)])
  refine so_cl (k := 306) (pc := 4) (r1 := 0) (r2 := 11281) (r3 := 126) (ix := 143) (d := 400) (nx := 7) (i := .invokespecial 143) (st := [.ref 0, .ref 0]) (ls := [some (.ref 999), none, none, none, none, none, none, none]) (o := .inl (none, sg2 L xs)) (lsM := ls) (rc := fun d' k' la _ σ' => Run true d' k' 0 la [] σ') (rk := rjK 0) (rj := rjK 0) hk hx hb hml hown hgw hWs hW hS (fun _ => by rw [hG1]; exact Nat.le_of_eq rfl) hLV.1 (Or.inr (Or.inr rfl)) d306_4.1 d306_4.2 rfl hR ?_ ?_ ?_ ?_
  · intro d' as o' t hd' hlen hrun hbk
    have e9 := bk_K hbk
    refine ⟨Cnt_run hl (by decide) hlen hrun, ?_, ?_⟩
    · rw [e9]; exact Nat.le_of_ble_eq_true rfl
    · rw [e9]; exact Nat.le_of_ble_eq_true rfl
  · have e9 : Run true 399 0 0 [some (.ref 0)] [] (sg1 L xs) = some (.inl (none, sg2 L xs)) := ini_cls
    have e8 : clF true (fun d' k' la _ σ' => Run true d' k' 0 la [] σ') (rjK 0) (rjK 0) 400 306 7 0 11281 [some (.ref 999), none, none, none, none, none, none, none] [.ref 0, .ref 0] (sg1 L xs) = bkF (rjK 0) 306 7 [some (.ref 999), none, none, none, none, none, none, none] [.ref 0] (Run true 399 0 0 [some (.ref 0)] [] (sg1 L xs)) := rfl
    refine e8.trans ?_
    rw [e9]
    exact rjK_at (nx := 7) (ls := [some (.ref 999), none, none, none, none, none, none, none])
  rotate_left
  · intro t E σ' o' d' la H9 locs9 ce q9 h1 h2 h3 h4 h5
    have h6 := Nat.eq_of_beq_eq_true (List.all_eq_true.mp hnd306 E (List.mem_range.mpr (by omega)))
    rw [h6] at h5
    cases h5
  intro t' σ' o' d' la H2 locs2 hrc hX' hj hW2 hsz2 hS2
  obtain ⟨rfl, ho⟩ := rjK_of hj
  cases ho
  rw [← hX']
  clear hW hS
  have hW := hW2
  have hS := hS2
  show W p l e room_1 s m #[Value.ref b] below meth c H2 locs2 85 13728 (lw_Z below #[Value.ref b] s) (F0 m 7 ls [.ref (adr G 0)])
  refine lv_astore_n (i := 1) hx hb d306_7.1 rfl hLV (by decide) rfl (fun ls hl2 => ?_)
  have hLV : LV G ls 8 [some (.ref 999), some (.ref 0), none, none, none, none, none, none] := LV_st1 (v := .ref 0) hl2
  show W p l e room_1 s m #[Value.ref b] below meth c H2 locs2 85 13728 (lw_Z below #[Value.ref b] s) (F0 m 8 ls [])
  refine so_nw (k := 306) (pc := 8) (r1 := 12) (r2 := 93) (r3 := 1591) (st := []) (K := fun q σ' => some (.inl (some (.ref q), σ'))) (o := .inl (some (.ref 85), nwS (sg2 L xs) 93)) hk hx hb hown hgw hWs.1 hW hS h0 (fun _ => by rw [hG1]; exact Nat.le_of_eq rfl) d306_8.1 rfl d306_8.2 rfl (Nat.le_of_ble_eq_true rfl) (Nat.le_of_ble_eq_true rfl) (fun σ1 H3 locsH3 a hK hW1 hS1 _ _ _ => ?_)
  have hK : (some (Sum.inl (some (Value.ref a), σ1)) : Option PO) = some (Sum.inl (some (Value.ref 85), nwS (sg2 L xs) 93)) := hK
  cases hK
  rw [nw_3] at hW1
  clear hW hS
  have hW := hW1
  have hS := hS1
  show W p l e room_1 s m #[Value.ref b] below meth c H3 locsH3 86 13821 (lw_Z below #[Value.ref b] s) (F0 m 11 ls [.ref (adr G 85)])
  refine lv_dup hx hb d306_11.1 rfl ?_
  show W p l e room_1 s m #[Value.ref b] below meth c H3 locsH3 86 13821 (lw_Z below #[Value.ref b] s) (F0 m 12 ls [.ref (adr G 85), .ref (adr G 85)])
  refine so_cl (k := 306) (pc := 12) (r1 := 167) (r2 := 12305) (r3 := 1593) (ix := 146) (d := 400) (nx := 15) (i := .invokespecial 146) (st := [.ref 85, .ref 85]) (ls := [some (.ref 999), some (.ref 0), none, none, none, none, none, none]) (o := .inl (none, sg4 L xs)) (lsM := ls) (rc := fun d' k' la _ σ' => Run true d' k' 0 la [] σ') (rk := rjK 85) (rj := rjK 85) hk hx hb hml hown hgw hWs hW hS (fun _ => by rw [hG1]; exact Nat.le_of_eq rfl) hLV.1 (Or.inr (Or.inr rfl)) d306_12.1 d306_12.2 rfl hR ?_ ?_ ?_ ?_
  · intro d' as o' t hd' hlen hrun hbk
    have e9 := bk_K hbk
    refine ⟨Cnt_run hl (by decide) hlen hrun, ?_, ?_⟩
    · rw [e9]; exact Nat.le_of_ble_eq_true rfl
    · rw [e9]; exact Nat.le_of_ble_eq_true rfl
  · have e9 : Run true 399 167 0 [some (.ref 85)] [] (sg3 L xs) = some (.inl (none, sg4 L xs)) := ini_mdl
    have e8 : clF true (fun d' k' la _ σ' => Run true d' k' 0 la [] σ') (rjK 85) (rjK 85) 400 306 15 167 12305 [some (.ref 999), some (.ref 0), none, none, none, none, none, none] [.ref 85, .ref 85] (sg3 L xs) = bkF (rjK 85) 306 15 [some (.ref 999), some (.ref 0), none, none, none, none, none, none] [.ref 85] (Run true 399 167 0 [some (.ref 85)] [] (sg3 L xs)) := rfl
    refine e8.trans ?_
    rw [e9]
    exact rjK_at (nx := 15) (ls := [some (.ref 999), some (.ref 0), none, none, none, none, none, none])
  rotate_left
  · intro t E σ' o' d' la H9 locs9 ce q9 h1 h2 h3 h4 h5
    have h6 := Nat.eq_of_beq_eq_true (List.all_eq_true.mp hnd306 E (List.mem_range.mpr (by omega)))
    rw [h6] at h5
    cases h5
  intro t' σ' o' d' la H4 locs4 hrc hX' hj hW2 hsz2 hS2
  obtain ⟨rfl, ho⟩ := rjK_of hj
  cases ho
  rw [← hX']
  clear hW hS
  have hW := hW2
  have hS := hS2
  show W p l e room_1 s m #[Value.ref b] below meth c H4 locs4 145 30611 (lw_Z below #[Value.ref b] s) (F0 m 15 ls [.ref (adr G 85)])
  refine lv_astore_n (i := 2) hx hb d306_15.1 rfl hLV (by decide) rfl (fun ls hl2 => ?_)
  have hLV : LV G ls 8 [some (.ref 999), some (.ref 0), some (.ref 85), none, none, none, none, none] := LV_st1 (v := .ref 85) hl2
  show W p l e room_1 s m #[Value.ref b] below meth c H4 locs4 145 30611 (lw_Z below #[Value.ref b] s) (F0 m 16 ls [])
  refine lv_iconst (v := nI 1) hx hb d306_16.1 (by decide +kernel) ?_
  show W p l e room_1 s m #[Value.ref b] below meth c H4 locs4 145 30611 (lw_Z below #[Value.ref b] s) (F0 m 17 ls [.int (nI 1)])
  refine so_na (k := 306) (pc := 17) (r1 := 2) (r2 := 0) (r3 := 0) (at_ := .long) (n := nI 1) (st := []) (K := fun q σ' => some (.inl (some (.ref q), σ'))) (o := .inl (some (.ref 145), naS (sg4 L xs))) hx hb hgw hWs.1 hW hS h0 (fun _ => by rw [hG1]; exact Nat.le_of_eq rfl) d306_17.1 d306_17.2 rfl (Nat.le_of_ble_eq_true rfl) (Nat.le_of_ble_eq_true rfl) (fun σ1 H5 locs5 a hK hW1 hS1 _ _ _ => ?_)
  have hK : (some (Sum.inl (some (Value.ref a), σ1)) : Option PO) = some (Sum.inl (some (Value.ref 145), naS (sg4 L xs))) := hK
  cases hK
  rw [na_5] at hW1
  clear hW hS
  have hW := hW1
  have hS := hS1
  show W p l e room_1 s m #[Value.ref b] below meth c H5 locs5 146 30612 (lw_Z below #[Value.ref b] s) (F0 m 19 ls [.ref (adr G 145)])
  refine lv_astore_n (i := 3) hx hb d306_19.1 rfl hLV (by decide) rfl (fun ls hl2 => ?_)
  have hLV : LV G ls 8 [some (.ref 999), some (.ref 0), some (.ref 85), some (.ref 145), none, none, none, none] := LV_st1 (v := .ref 145) hl2
  show W p l e room_1 s m #[Value.ref b] below meth c H5 locs5 146 30612 (lw_Z below #[Value.ref b] s) (F0 m 20 ls [])
  refine lv_iconst (v := nI 0) hx hb d306_20.1 (by decide +kernel) ?_
  show W p l e room_1 s m #[Value.ref b] below meth c H5 locs5 146 30612 (lw_Z below #[Value.ref b] s) (F0 m 21 ls [.int (nI 0)])
  refine lv_istore hx hb d306_21.1 hLV (by decide) rfl (fun ls hl2 => ?_)
  have hLV2 : LV G ls 8 (lLs (nI 0) none none none) := LV_st1 (v := .int (nI 0)) hl2
  exact walk_23 hL hG1 ⟨hk, hl, hx, hb, hml, hown, hgw, hWs, by rw [hxt]; rfl, hlocks, hr, fun h => (by cases h), hR⟩ hW hS hLV2
