/-! SOUNDNESS, I: behind a call; the handlers -/
section SI
variable {p : Program} {l : Launch} {e : Env} {R : Room} {s : State} {m : MethodId} {args : Array Value} {below : List Frame} {meth : Method} {c : Code} {H : Heap} {locs : List Loc} {cells slots : Nat} {Q : State → Prop}
variable {V : Nat → Nat} {G : Nat × Nat × Nat × Nat} {D : va_G} {cT : ClassId × ClassId × ClassId} {L : Nat} {xs : Nat → Int32} {ini : Bool} {σ : PS}
theorem so_bk {av : Array Value} {pc k nx : Nat} {t : List Value} {ls : List (Option Value)} {o o' : PO} {lsM : Array Slot} {st0 : List Value} {rj : Nat → List (Option Value) → List Value → PS → Option PO}
    (hS : va_S (fun q : Nat => G.1 ≤ q) s.heap H locs)
    (hr : vx_Run p l e R s m args below meth c H locs cells slots (xC (oX o') - xC (XX σ)) (xS (oX o') - xS (XX σ)) (F0 m pc lsM st0) (t.map (cz G)) (QcM G D cT L xs ini o' av) (XcM G D cT L xs ini o') (fun q => G.1 ≤ q))
    (h : bkF rj k nx ls t (some o') = some o)
    (kk : ∀ (t' : List Value) (σ' : PS) (H1 : Heap) (locs1 : List Loc), XX σ' = oX o' → rj nx ls t' σ' = some o → Wmd G D cT L xs ini σ' H1 → (ini = true → H1.size = G.1 + xN (XX σ')) → va_S (fun q : Nat => G.1 ≤ q) s.heap H1 locs1 → W p l e R s m args below meth c H1 locs1 (cells + (xC (oX o') - xC (XX σ))) (slots + (xS (oX o') - xS (XX σ))) Q (F0 m (pc + 3) lsM (t'.map (cz G))))
    (kx : ∀ (E : Nat) (σ' : PS) (H1 : Heap) (locs1 : List Loc) (ce : Cell) (q : Addr), XX σ' = oX o' → 1 ≤ E → E ≤ 4 → (match hnd k E with | 0 => some (.inr (E, σ')) | h + 1 => rj (fe k (h + 1)).2.1 (lset (lkl ls (fe k (h + 1)).2.2.1) (fe k (h + 1)).2.2.1 none) [] σ') = some o → Wmd G D cT L xs ini σ' H1 → (ini = true → H1.size = G.1 + xN (XX σ')) → va_S (fun q : Nat => G.1 ≤ q) s.heap H1 locs1 → H1[q]? = some ce → ce.vm = .none → s.vm.findClass (excN E) = some ce.cls → vx_W p l e R s m args below meth c H1 locs1 (cells + (xC (oX o') - xC (XX σ))) (slots + (xS (oX o') - xS (XX σ))) Q (F0 m pc lsM (t.map (cz G))) q) :
    W p l e R s m args below meth c H locs cells slots Q (F0 m pc lsM st0) := by
  rcases o' with ⟨w, σ'⟩ | ⟨E, σ'⟩
  · cases w with
    | none =>
      refine vx_callv (a := av) hr hS (fun _ _ q => q) (fun _ q => q) (fun _ _ q => q) (fun E ce q9 u t H1 locs1 _ _ hF => hF.elim) (fun u T H1 locs1 hT _ _ hB _ _ hS1 => ?_)
      subst hT
      exact kk t σ' _ locs1 rfl h hB.1 hB.2 hS1
    | some w =>
      cases w with
      | int r =>
        refine vx_calli (a := av) hr hS (fun _ _ q => q) (fun _ q => q) (fun _ _ q => q) (fun E ce q9 u t H1 locs1 _ _ hF => hF.elim) (fun r' u T H1 locs1 hT _ hp hB _ _ hS1 => ?_)
        subst hT
        have hp : r' = r := hp
        subst hp
        exact kk (.int r' :: t) σ' _ locs1 rfl h hB.1 hB.2 hS1
      | long r =>
        refine vx_calll (a := av) hr hS (fun _ _ q => q) (fun _ q => q) (fun _ _ q => q) (fun E ce q9 u t H1 locs1 _ _ hF => hF.elim) (fun r' u T H1 locs1 hT _ hp hB _ _ hS1 => ?_)
        subst hT
        have hp : r' = r := hp
        subst hp
        exact kk (.long r' :: t) σ' _ locs1 rfl h hB.1 hB.2 hS1
      | _ => exact vx_callv (a := av) hr hS (fun _ _ q => q) (fun _ q => q) (fun _ _ q => q) (fun E ce q9 u t H1 locs1 _ _ hF => hF.elim) (fun u T H1 locs1 hT _ hF => hF.elim)
  · refine vx_callv (a := av) hr hS (fun _ _ q => q) (fun _ q => q) (fun _ _ q => q) (fun E' ce q9 u T H1 locs1 hT _ hp hB _ _ hS1 hce hcv hcl => ?_) (fun u T H1 locs1 hT _ hF => hF.elim)
    subst hT
    have hB' : E' = excN E ∧ Wdy G D cT L xs ini σ' T := hB
    obtain ⟨rfl, hB'⟩ := hB'
    exact kx E σ' _ locs1 ce q9 rfl hp.1 hp.2 h hB'.1 hB'.2 hS1 hce hcv hcl
theorem bif_s {α : Type} {b : Bool} {x y : α} (h : (bif b then some x else none) = some y) : b = true ∧ x = y := by
  cases b
  · cases h
  · exact ⟨rfl, Option.some.inj h⟩
theorem op_own {k pc r1 r2 r3 ix : Nat} {i : Instr} (hi : i = .invokevirtual ix ∨ i = .invokestatic ix ∨ i = .invokespecial ix) (hop : rowOp k pc i (pc + 3) r1 r2 r3 .null = true) (hr1 : Nat.ble 1000 r1 = false) : chkOwn k r1 r2 r3 ix = true := by
  rcases hi with rfl | rfl | rfl
  · have hop2 : (bif Nat.ble 1000 r1 then Nat.ble 1003 r1 && (Nat.ble r1 1005 && (isC r3 (7, m_ci k, ix, r1, 0) && Nat.beq (m_ci k) 8)) else chkOwn k r1 r2 r3 ix && (decide (m_hh r1 = []) && (isC (m_p2 r1) (3, r1, 0, 0, 0) && (isC (m_p3 r1) (4, r1, 0, 0, 0) && (Nat.beq (r2 / 1024) (m_ci r1) && Nat.ble (m_ci r1 + 1) 13))))) = true := hop
    rw [hr1] at hop2
    exact ((Bool.and_eq_true _ _).mp hop2).1
  · have hop2 : (bif Nat.ble 1000 r1 then Nat.ble r1 1002 && isC r3 (7, m_ci k, ix, r1, 0) else chkOwn k r1 r2 r3 ix && (Nat.beq (r2 / 1024) 31 && (isC (m_p2 r1) (5, r1, 0, 0, 0) && Nat.beq (m_ci r1) (m_ci k)))) = true := hop
    rw [hr1] at hop2
    exact ((Bool.and_eq_true _ _).mp hop2).1
  · have hop2 : (bif Nat.ble 1000 r1 then Nat.beq r1 2000 || (Nat.beq r1 1006 && isC r3 (7, m_ci k, ix, 1006, 0)) else chkOwn k r1 r2 r3 ix && (decide (m_hh r1 = []) && (isC (m_p2 r1) (3, r1, 0, 0, 0) && (isInit r1 && (decide (m_ret r1 = none) && (Nat.beq (r2 / 1024) (m_ci r1) && Nat.ble (m_ci r1 + 1) 13)))))) = true := hop
    rw [hr1] at hop2
    exact ((Bool.and_eq_true _ _).mp hop2).1
/-- a call of one's own method -/
theorem so_cl {k pc r1 r2 r3 ix d nx : Nat} {i : Instr} {st : List Value} {ls : List (Option Value)} {o : PO} {lsM : Array Slot} {rc : Nat → Nat → List (Option Value) → List Value → PS → Option PO} {rk rj : Nat → List (Option Value) → List Value → PS → Option PO} (hk : k < 307) (hx : p.tables.exec = Jvm.exec) (hb : c.code = m_b k) (hml : c.maxLocals = m_L k) (hown : s.vm.findClass (m_own k) = some m.cls) (hts : ∀ w ∈ gw, w.before args s = true)
    (hWs : Wst V G D cT L xs s) (hW : Wmd G D cT L xs ini σ H) (hS : va_S (fun q : Nat => G.1 ≤ q) s.heap H locs) (hsz : ini = true → s.heap.size + cells ≤ G.1 + xN (XX σ)) (hls : lsM.size = m_L k)
    (hi : i = .invokevirtual ix ∨ i = .invokestatic ix ∨ i = .invokespecial ix) (hd : decode (m_b k) pc = .ok (i, 3)) (hop : rowOp k pc i (pc + 3) r1 r2 r3 .null = true) (hr1 : Nat.ble 1000 r1 = false)
    (hR : d + 10 ≤ R.frames ∧ 100 * d + 200 ≤ R.locals)
    (hrc : ∀ d' as o' t, d = d' + 1 → (argl as).length ≤ m_L r1 → rc d' r1 (padl (m_L r1) (argl as)) [] σ = some o' → bkF rj k nx ls t (some o') = some o → Cnt l V G D cT L xs ini d' r1 as σ o' ∧ cells + (xC (oX o') - xC (XX σ)) ≤ R.cells ∧ slots + (xS (oX o') - xS (XX σ)) ≤ R.slots)
    (h : clF ini rc rk rj d k nx r1 r2 ls st σ = some o)
    (kk : ∀ (t' : List Value) (σ' : PS) (o' : PO) (d' : Nat) (la : List (Option Value)) (H1 : Heap) (locs1 : List Loc), rc d' r1 la [] σ = some o' → XX σ' = oX o' → rj nx ls t' σ' = some o → Wmd G D cT L xs ini σ' H1 → (ini = true → H1.size = G.1 + xN (XX σ')) → va_S (fun q : Nat => G.1 ≤ q) s.heap H1 locs1 → W p l e R s m args below meth c H1 locs1 (cells + (xC (oX o') - xC (XX σ))) (slots + (xS (oX o') - xS (XX σ))) Q (F0 m (pc + 3) lsM (t'.map (cz G))))
    (kx : ∀ (t : List Value) (E : Nat) (σ' : PS) (o' : PO) (d' : Nat) (la : List (Option Value)) (H1 : Heap) (locs1 : List Loc) (ce : Cell) (q : Addr), rc d' r1 la [] σ = some o' → XX σ' = oX o' → 1 ≤ E → E ≤ 4 → (match hnd k E with | 0 => some (.inr (E, σ')) | h + 1 => rj (fe k (h + 1)).2.1 (lset (lkl ls (fe k (h + 1)).2.2.1) (fe k (h + 1)).2.2.1 none) [] σ') = some o → Wmd G D cT L xs ini σ' H1 → (ini = true → H1.size = G.1 + xN (XX σ')) → va_S (fun q : Nat => G.1 ≤ q) s.heap H1 locs1 → H1[q]? = some ce → ce.vm = .none → s.vm.findClass (excN E) = some ce.cls → vx_W p l e R s m args below meth c H1 locs1 (cells + (xC (oX o') - xC (XX σ))) (slots + (xS (oX o') - xS (XX σ))) Q (F0 m pc lsM (t.map (cz G))) q) :
    W p l e R s m args below meth c H locs cells slots Q (F0 m pc lsM (st.map (cz G))) := by
  unfold clF at h
  rw [hr1] at h
  dsimp only [cond] at h
  cases e1 : cpF ini σ r2 st with
  | none => rw [e1] at h; cases h
  | some q =>
    obtain ⟨la, t⟩ := q
    rw [e1] at h
    dsimp only at h
    cases d with
    | zero => cases h
    | succ d' =>
      dsimp only at h
      unfold cpF at e1
      cases e2 : popn (r2 % 16) [] st with
      | none => rw [e2] at e1; cases e1
      | some q2 =>
        obtain ⟨as, t2⟩ := q2
        rw [e2] at e1
        dsimp only at e1
        obtain ⟨as0, rfl, hlen, rfl⟩ := popn_eq e2
        rw [List.append_nil] at e1 e2
        obtain ⟨hcnd, e1⟩ := bif_s e1
        have hla : padl (r2 / 16 % 64) (argl as0) = la := congrArg Prod.fst e1
        have ht : t2 = t := congrArg Prod.snd e1
        subst hla
        subst ht
        rw [Bool.and_eq_true] at hcnd
        obtain ⟨k1, k2⟩ := hcnd
        rw [Bool.and_eq_true] at k2
        obtain ⟨k2, k3⟩ := k2
        have k1 := Nat.le_of_ble_eq_true k1
        have k2 := Nat.le_of_ble_eq_true k2
        have hL : r2 / 16 % 64 = m_L r1 := by
          have h1 := op_own hi hop hr1
          unfold chkOwn at h1
          simp only [Bool.and_eq_true, Nat.beq_eq, Nat.ble_eq] at h1
          exact h1.2.2.2.1
        rw [hL] at k2 h
        cases e3 : rc d' r1 (padl (m_L r1) (argl as0)) [] σ with
        | none => rw [e3] at h; cases h
        | some o' =>
          rw [e3] at h
          obtain ⟨m1, m2, m3⟩ := hrc d' as0 o' t2 rfl k2 e3 h
          refine W_size fun hsize => ?_
          have hsz' : ini = true → H.size = G.1 + xN (XX σ) := fun q => by
            have h1 := hsz q
            have h2 := wsO_top hW.1 hW.2.1 (Nat.le_trans hWs.2.2.2.1 hS.1)
            omega
          exact so_bk hS (so_run hk hx hb hml hown hts hWs hW hS hsz' hls hi hd hop hr1 hlen k1 k3 m1 (by omega) m2 m3) h (fun t' σ' H1 locs1 q1 q2 q3 q4 q5 => kk t' σ' o' d' _ H1 locs1 e3 q1 q2 q3 q4 q5) (fun E σ' H1 locs1 ce q q1 q2 q3 q4 q5 q6 q7 q8 q9 q10 => kx t2 E σ' o' d' _ H1 locs1 ce q e3 q1 q2 q3 q4 q5 q6 q7 q8 q9 q10)
end SI
