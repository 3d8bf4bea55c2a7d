/-! SOUNDNESS, H: calls of one's own methods: words, arguments, the callee's first frame -/
theorem mt_1 : (List.range 306).all (fun k => isC (m_p1 k) (2, k, 0, 0, 0)) = true := by decide +kernel
theorem mt_2 : (List.range 307).all (fun k => Nat.ble (m_L k) 60 && Nat.ble (m_ci k) 31) = true := by decide +kernel
theorem mt_3 : (List.range 32).all (fun c => plainName (clN c) && (decide (clN c ≠ "java/lang/invoke/MethodHandle") && decide (clN c ≠ "java/lang/invoke/VarHandle"))) = true := by decide +kernel
theorem mt_4 : (List.range 306).all (fun k => decide ((parseMethodDescriptor (m_ds k)).map (fun d => d.parameters.length) = some (m_na k))) = true := by decide +kernel
theorem good_mw (k : Nat) : goodWord (m_w k) = true := by
  unfold m_w
  split <;> rfl
theorem mw_in {k : Nat} (h : k < 306) : m_w k ∈ gw := by
  have h1 := List.all_eq_true.mp mt_1 k (List.mem_range.mpr h)
  exact gw_C (x := (2, k, 0, 0, 0)) h1 (Nat.le_of_ble_eq_true rfl) (good_mw k)
theorem gw_good {w : Cond} (h : w ∈ gw) : (w.onTables && w.keeps) = true ∨ ∃ ty, w = .arrayClass ty := good_of_word (List.mem_filter.mp h).2
theorem m_own_plain {k : Nat} (h : k < 307) : plainName (m_own k) = true ∧ m_own k ≠ "java/lang/invoke/MethodHandle" ∧ m_own k ≠ "java/lang/invoke/VarHandle" := by
  have h2 := List.all_eq_true.mp mt_2 k (List.mem_range.mpr h)
  simp only [Bool.and_eq_true, Nat.ble_eq] at h2
  have h3 := List.all_eq_true.mp mt_3 (m_ci k) (List.mem_range.mpr (by omega))
  simp only [Bool.and_eq_true, decide_eq_true_eq] at h3
  rw [own_ci h]
  exact h3
theorem m_par {k : Nat} (h : k < 306) : (parseMethodDescriptor (m_ds k)).map (fun d => d.parameters.length) = some (m_na k) :=
  of_decide_eq_true (List.all_eq_true.mp mt_4 k (List.mem_range.mpr h))
theorem popn_eq : ∀ {n : Nat} {acc st as t : List Value}, popn n acc st = some (as, t) → ∃ l, as = l ++ acc ∧ l.length = n ∧ st = l.reverse ++ t := by
  intro n
  induction n with
  | zero => intro acc st as t h; cases h; exact ⟨[], rfl, rfl, rfl⟩
  | succ n ih =>
    intro acc st as t h
    cases st with
    | nil => cases h
    | cons v st =>
      obtain ⟨l, h1, h2, h3⟩ := ih (show popn n (v :: acc) st = some (as, t) from h)
      exact ⟨l ++ [v], by rw [h1]; simp, by simp [h2], by rw [h3]; simp⟩
section SH
variable {G : Nat × Nat × Nat × Nat}
theorem cats_eq : ∀ (t : List Value), ((t.map (cz G)).map fun v => v.category).sum = cats t := by
  intro t
  induction t with
  | nil => rfl
  | cons v t ih =>
    rw [List.map_cons, List.map_cons, List.sum_cons, ih]
    cases v <;> exact Nat.add_comm _ _
theorem sl_len : ∀ (as : List Value), (lg_sl (as.map (cz G))).length = (argl as).length := by
  intro as
  induction as with
  | nil => rfl
  | cons v t ih =>
    unfold lg_sl at ih ⊢
    rw [List.map_cons, List.flatMap_cons, List.length_append, ih]
    cases v <;> first
      | exact Nat.add_comm 2 _
      | exact Nat.add_comm 1 _
theorem sl_at : ∀ (as : List Value) (j : Nat) (v : Value), lget (argl as) j = some v → (lg_sl (as.map (cz G)))[j]? = some (.val (cz G v)) := by
  intro as
  induction as with
  | nil => intro j v h; cases h
  | cons x t ih =>
    intro j v h
    have two : ∀ (y : Slot), lg_sl ((x :: t).map (cz G)) = .val (cz G x) :: y :: lg_sl (t.map (cz G)) → argl (x :: t) = some x :: none :: argl t → (lg_sl ((x :: t).map (cz G)))[j]? = some (.val (cz G v)) := by
      intro y e1 e2
      rw [e1]
      rw [e2] at h
      match j, h with
      | 0, h => cases h; rfl
      | 1, h => cases h
      | j + 2, h => exact ih j v h
    have one : lg_sl ((x :: t).map (cz G)) = .val (cz G x) :: lg_sl (t.map (cz G)) → argl (x :: t) = some x :: argl t → (lg_sl ((x :: t).map (cz G)))[j]? = some (.val (cz G v)) := by
      intro e1 e2
      rw [e1]
      rw [e2] at h
      match j, h with
      | 0, h => cases h; rfl
      | j + 1, h => exact ih j v h
    cases x <;> first
      | exact two _ rfl rfl
      | exact one rfl rfl
theorem padl_get : ∀ (n : Nat) (l : List (Option Value)) (j : Nat) (v : Value), lget (padl n l) j = some v → lget l j = some v ∧ j < n := by
  intro n
  induction n with
  | zero => intro l j v h; cases h
  | succ n ih =>
    intro l j v h
    cases l with
    | nil =>
      cases j with
      | zero => cases h
      | succ j =>
        obtain ⟨h1, h2⟩ := ih [] j v h
        cases h1
    | cons x t =>
      cases j with
      | zero => exact ⟨h, Nat.succ_pos _⟩
      | succ j =>
        obtain ⟨h1, h2⟩ := ih t j v h
        exact ⟨h1, Nat.succ_lt_succ h2⟩
/-- the callee's first frame -/
theorem LV_entry {m : MethodId} {as : List Value} {n : Nat} (h : (argl as).length ≤ n) : ∃ ls, entryFrame m (as.map (cz G)).toArray n = F0 m 0 ls [] ∧ LV G ls n (padl n (argl as)) := by
  refine ⟨_, lg_entry_eq m _ n, ?_⟩
  have hz := sl_len (G := G) as
  have h0 := lv_entry (as.map (cz G)) (n := n) (by rw [hz]; exact h)
  refine ⟨h0.1, h0.2.1, fun q hq => ?_⟩
  obtain ⟨j, v, rfl, hj⟩ := asl_to hq
  obtain ⟨h1, -⟩ := padl_get _ _ _ _ hj
  have h2 := sl_at (G := G) as j v h1
  have h3 := (List.getElem?_eq_some_iff.mp h2).1
  show ((lg_sl (as.map (cz G)) ++ List.replicate (n - (lg_sl (as.map (cz G))).length) Slot.unset).toArray)[0 + j]? = _
  rw [Nat.zero_add, List.getElem?_toArray, List.getElem?_append_left h3]
  exact h2
end SH
theorem law_ini : Cond.initialized (clN 31) ∈ gw := gw_C (p := 97) (x := (9, 31, 0, 0, 0)) (by decide +kernel) (Nat.le_of_ble_eq_true rfl) rfl
theorem mt_5 : (List.range 307).all (fun k => Nat.ble (m_ci k + 1) 13 || Nat.beq (m_ci k) 31) = true := by decide +kernel
theorem own_ini {k : Nat} (h : k < 307) : Cond.initialized (m_own k) ∈ gw := by
  have h5 := List.all_eq_true.mp mt_5 k (List.mem_range.mpr h)
  rw [own_ci h]
  cases e : Nat.ble (m_ci k + 1) 13 with
  | true => exact cw_ini (Nat.le_of_ble_eq_true e)
  | false =>
    rw [e] at h5
    have e2 : m_ci k = 31 := Nat.eq_of_beq_eq_true h5
    rw [e2]
    exact law_ini
theorem mw_nil {k : Nat} (h : m_hh k = []) : m_w k = .code (m_y k) (m_b k) (m_L k) (m_ret k) := by unfold m_w; rw [h]
theorem mw_cons {k : Nat} (h : m_hh k ≠ []) : m_w k = .codeWith (m_y k) (m_b k) (m_L k) (m_ret k) (m_hh k) := by
  unfold m_w
  cases e : m_hh k with
  | nil => exact absurd e h
  | cons a t => rfl
theorem mt_6 : (List.range 306).all (fun k => !isInit k || decide (m_nm k = "<init>")) = true := by decide +kernel
/-- is the receiver of that class -/
def rcv (ini : Bool) (σ : PS) (r : Nat) (as : List Value) : Bool := match as with
  | .ref a :: _ => Nat.beq r 31 || (Nat.beq (objc a) r && okN ini σ a)
  | _ => Nat.beq r 31
section SH2
variable {p : Program} {l : Launch} {e : Env} {R : Room} {s : State} {m : MethodId} {args : Array Value} {below : List Frame} {meth : Method} {c : Code} {H : Heap} {locs : List Loc} {cells slots : Nat} {Q : State → Prop}
variable {V : Nat → Nat} {G : Nat × Nat × Nat × Nat} {D : va_G} {cT : ClassId × ClassId × ClassId} {L : Nat} {xs : Nat → Int32} {ini : Bool} {σ : PS}
theorem recv {a ci : Nat} (hK : va_K D vwC (tyL cT) s) (hW : Wmd G D cT L xs ini σ H) (hn : a < xN (XX σ)) (hci : ci < 13) (ho : objc a = ci) : ∃ cellB : Cell, H[adr G a]? = some cellB ∧ cellB.vm.isStatics = false ∧ s.vm.findClass (clN ci) = some cellB.cls := by
  subst ho
  have h1 := hW.1 a _ (wsO_at hn)
  rw [ceO_obj (by omega)] at h1
  obtain ⟨r, hr, cell, h2, h3, h4, -⟩ := h1
  have h5 := hK.1 (objc a) _ (cN_at hci).1
  exact ⟨cell, h2, by rw [h4]; rfl, by rw [h3]; exact h5.2.1⟩
theorem Pc_blind {As : List Value} : FrameBlind (PcM V G D cT L xs ini As σ) := fun a U g mk q => ⟨q.1, Wst_calling q.2.1, q.2.2⟩
theorem gi_mw {k : Nat} (h : k < 306) {ws : List Cond} (hw : ∀ w ∈ ws, w ∈ gw) : GoodIn gw (ws ++ (m_w k :: gw)) := by
  intro w h1
  have h2 : w ∈ gw := by
    rcases List.mem_append.mp h1 with h1 | h1
    · exact hw w h1
    · rcases List.mem_cons.mp h1 with h1 | h1
      · rw [h1]; exact mw_in h
      · exact h1
  exact ⟨h2, gw_good h2⟩
theorem GoodIn_V {k r ix : Nat} (h : r < 306) (h1 : Cond.methodLink (m_own k) ix (m_y r) ∈ gw) (h2 : Cond.instanceMethod (m_y r) ∈ gw) (h3 : Cond.selects (m_own r) (m_y r) (m_y r) ∈ gw) : GoodIn gw (wsV (m_own k) ix (m_own r) (m_y r) (m_w r :: gw)) := by
  unfold wsV
  refine gi_mw h fun w hw => ?_
  simp only [List.mem_cons, List.not_mem_nil, or_false] at hw
  rcases hw with rfl | rfl | rfl | rfl
  · exact h1
  · exact h2
  · exact h3
  · exact own_ini (by omega)
theorem GoodIn_S {k r ix : Nat} (h : r < 306) (h1 : Cond.methodLink (m_own k) ix (m_y r) ∈ gw) (h2 : Cond.static (m_y r) ∈ gw) : GoodIn gw (va_wsS (m_own k) ix (m_y r) (m_w r :: gw)) := by
  unfold va_wsS
  refine gi_mw h fun w hw => ?_
  simp only [List.mem_cons, List.not_mem_nil, or_false] at hw
  rcases hw with rfl | rfl | rfl
  · exact h1
  · exact h2
  · exact own_ini (by omega)
/-- a call of one's own method, run -/
theorem so_run {k pc r1 r2 r3 ix d' : Nat} {i : Instr} {as t : List Value} {o' : PO} {lsM : Array Slot} (hk : k < 307) (hx : p.tables.exec = Jvm.exec) (hb : c.code = m_b k) (hml : c.maxLocals = m_L k) (hown : s.vm.findClass (m_own k) = some m.cls) (hts : ∀ w ∈ gw, w.before args s = true)
    (hWs : Wst V G D cT L xs s) (hW : Wmd G D cT L xs ini σ H) (hS : va_S (fun q : Nat => G.1 ≤ q) s.heap H locs) (hsz : ini = true → H.size = G.1 + xN (XX σ)) (hls : lsM.size = m_L k)
    (hi : i = .invokevirtual ix ∨ i = .invokestatic ix ∨ i = .invokespecial ix) (hd : decode (m_b k) pc = .ok (i, 3)) (hop : rowOp k pc i (pc + 3) r1 r2 r3 .null = true) (hr1 : Nat.ble 1000 r1 = false)
    (hl : as.length = r2 % 16) (h8 : cats t ≤ 8) (hrc : rcv ini σ (r2 / 1024) as = true)
    (hM : Cnt l V G D cT L xs ini d' r1 as σ o') (hR : d' + 11 ≤ R.frames ∧ 100 * d' + 300 ≤ R.locals) (hc : cells + (xC (oX o') - xC (XX σ)) ≤ R.cells) (hs : slots + (xS (oX o') - xS (XX σ)) ≤ R.slots) :
    vx_Run p l e R s m args below meth c H locs cells slots (xC (oX o') - xC (XX σ)) (xS (oX o') - xS (XX σ)) (F0 m pc lsM ((as.reverse ++ t).map (cz G))) (t.map (cz G)) (QcM G D cT L xs ini o' (as.map (cz G)).toArray) (XcM G D cT L xs ini o') (fun q => G.1 ≤ q) := by
  have hK0 : va_K D vwC (tyL cT) s := hWs.1
  have S : CallFix p m c (m_b k) (m_L k) s args gw (m_own k) := ⟨hx, hb, hml, hown, hts⟩
  have hown' : m_own k = clN (m_ci k) := own_ci hk
  have hpc : ∀ U : State, U.heap = H → s.WarmedH U.vm → PcM V G D cT L xs ini as σ (as.map (cz G)).toArray U := fun U hU hWm => ⟨rfl, Wst_move hWs hS hU hWm, by rw [hU]; exact hW, fun q => by rw [hU]; exact hsz q⟩
  have hst : (as.reverse ++ t).map (cz G) = (as.map (cz G)).reverse ++ t.map (cz G) := by simp
  have h8' : ((t.map (cz G)).map fun v => v.category).sum ≤ 8 := by rw [cats_eq]; exact h8
  have hch : chkOwn k r1 r2 r3 ix = true → r1 < 306 ∧ Cond.methodLink (m_own k) ix (m_y r1) ∈ gw ∧ r2 % 16 = m_na r1 + (bif Nat.beq (r2 / 1024) 31 then 0 else 1) := by
    intro h
    unfold chkOwn at h
    simp only [Bool.and_eq_true, Nat.beq_eq, Nat.ble_eq] at h
    obtain ⟨h1, h2, h3, h4, h5⟩ := h
    refine ⟨by omega, ?_, h3⟩
    rw [hown']
    exact gw_C h1 (Nat.le_of_ble_eq_true rfl) rfl
  have hRR : r1 < 306 → (rmF d' (xC (oX o') - xC (XX σ)) (xS (oX o') - xS (XX σ))).frames + 1 ≤ R.frames ∧ 8 + (m_L r1 + 11) + (rmF d' (xC (oX o') - xC (XX σ)) (xS (oX o') - xS (XX σ))).locals ≤ R.locals := by
    intro h
    have h2 := List.all_eq_true.mp mt_2 r1 (List.mem_range.mpr (by omega))
    simp only [Bool.and_eq_true, Nat.ble_eq] at h2
    refine ⟨?_, ?_⟩
    · show d' + 10 + 1 ≤ _; omega
    · show 8 + (m_L r1 + 11) + (100 * d' + 200) ≤ _; omega
  have hsplit : Nat.beq (r2 / 1024) 31 = false → ∃ a as', as = .ref a :: as' ∧ objc a = r2 / 1024 ∧ okN ini σ a = true := by
    intro e
    rcases as with _ | ⟨v, as'⟩
    · have h : Nat.beq (r2 / 1024) 31 = true := hrc
      rw [e] at h; cases h
    · cases v with
      | ref a =>
        have h : (Nat.beq (r2 / 1024) 31 || (Nat.beq (objc a) (r2 / 1024) && okN ini σ a)) = true := hrc
        rw [e] at h
        simp only [Bool.false_or, Bool.and_eq_true, Nat.beq_eq] at h
        exact ⟨a, as', rfl, h.1, h.2⟩
      | _ =>
        have h : Nat.beq (r2 / 1024) 31 = true := hrc
        rw [e] at h; cases h
  have b31 : m_ci r1 + 1 ≤ 13 → r2 / 1024 = m_ci r1 → Nat.beq (r2 / 1024) 31 = false := by
    intro h1 h2
    cases e : Nat.beq (r2 / 1024) 31 with
    | false => rfl
    | true => have := Nat.eq_of_beq_eq_true e; omega
  rcases hi with rfl | rfl | rfl
  · have hop2 : (bif Nat.ble 1000 r1 then Nat.ble 1003 r1 && (Nat.ble r1 1005 && (isC r3 (7, m_ci k, ix, r1, 0) && Nat.beq (m_ci k) 8)) else chkOwn k r1 r2 r3 ix && (decide (m_hh r1 = []) && (isC (m_p2 r1) (3, r1, 0, 0, 0) && (isC (m_p3 r1) (4, r1, 0, 0, 0) && (Nat.beq (r2 / 1024) (m_ci r1) && Nat.ble (m_ci r1 + 1) 13))))) = true := hop
    rw [hr1] at hop2
    dsimp only [cond] at hop2
    rw [Bool.and_eq_true] at hop2
    obtain ⟨c1, c2⟩ := hop2
    simp only [Bool.and_eq_true, Nat.beq_eq, Nat.ble_eq, decide_eq_true_eq] at c2
    obtain ⟨c2, c3, c4, c5, c6⟩ := c2
    obtain ⟨h306, hlink, hna⟩ := hch c1
    have e31 := b31 c6 c5
    obtain ⟨a, as', rfl, ha1, ha2⟩ := hsplit e31
    rw [e31] at hna
    have hob := objc_obj (o := a) (by omega)
    have hn := okN_lt hW ha2 hob.1
    have hn' : (as'.map (cz G)).length = m_na r1 := by
      rw [List.length_map]
      have h1 : (Value.ref a :: as').length = m_na r1 + 1 := by rw [hl]; exact hna
      exact Nat.succ.inj h1
    have hy : m_own r1 = clN (m_ci r1) := own_ci (by omega)
    refine vx_runV (C := m_own r1) (b := adr G a) (As := as'.map (cz G)) (Ts := gw) S hM (cwV (m_na r1) hts (GoodIn_V h306 hlink (gw_C c3 (Nat.le_of_ble_eq_true rfl) rfl) (gw_C c4 (Nat.le_of_ble_eq_true rfl) rfl)) (by rw [mw_nil c2]) rfl rfl ⟨rfl, (m_own_plain (by omega)).2.1, (m_own_plain (by omega)).2.2, m_par h306⟩ (hRR h306)) ⟨Pc_blind, ?_, hpc⟩ rfl hn' hls ?_ (lv_room h8') hd ⟨hc, hs⟩
    · rw [hy]; exact recv hK0 hW hn (by omega) (by omega)
    · show ((Value.ref a :: as').reverse ++ t).map (cz G) = _
      simp
      rfl
  · have hop2 : (bif Nat.ble 1000 r1 then Nat.ble r1 1002 && isC r3 (7, m_ci k, ix, r1, 0) else chkOwn k r1 r2 r3 ix && (Nat.beq (r2 / 1024) 31 && (isC (m_p2 r1) (5, r1, 0, 0, 0) && Nat.beq (m_ci r1) (m_ci k)))) = true := hop
    rw [hr1] at hop2
    dsimp only [cond] at hop2
    rw [Bool.and_eq_true] at hop2
    obtain ⟨c1, c2⟩ := hop2
    simp only [Bool.and_eq_true] at c2
    obtain ⟨c2, c3, c4⟩ := c2
    obtain ⟨h306, hlink, hna⟩ := hch c1
    rw [c2] at hna
    have hn' : (as.map (cz G)).length = m_na r1 := by
      rw [List.length_map, hl]
      exact hna
    have hG := GoodIn_S (k := k) (ix := ix) h306 hlink (gw_C c3 (Nat.le_of_ble_eq_true rfl) rfl)
    by_cases hh : m_hh r1 = []
    · exact vx_runS (As := as.map (cz G)) (Ts := gw) S hM (va_cwS (m_na r1) hts hG (by rw [mw_nil hh]) rfl rfl ⟨(m_own_plain (by omega)).2.1, (m_own_plain (by omega)).2.2, m_par h306⟩ (hRR h306)) ⟨Pc_blind, hpc⟩ rfl hn' hls hst (lv_room h8') hd ⟨hc, hs⟩
    · exact vx_runSX (As := as.map (cz G)) (Ts := gw) S hM (vx_cwSW (m_na r1) hts hG (by rw [mw_cons hh]) rfl rfl ⟨(m_own_plain (by omega)).2.1, (m_own_plain (by omega)).2.2, m_par h306⟩ (hRR h306)) ⟨Pc_blind, hpc⟩ rfl hn' hls hst (lv_room h8') hd ⟨hc, hs⟩
  · have hop2 : (bif Nat.ble 1000 r1 then Nat.beq r1 2000 || (Nat.beq r1 1006 && isC r3 (7, m_ci k, ix, 1006, 0)) else chkOwn k r1 r2 r3 ix && (decide (m_hh r1 = []) && (isC (m_p2 r1) (3, r1, 0, 0, 0) && (isInit r1 && (decide (m_ret r1 = none) && (Nat.beq (r2 / 1024) (m_ci r1) && Nat.ble (m_ci r1 + 1) 13)))))) = true := hop
    rw [hr1] at hop2
    dsimp only [cond] at hop2
    rw [Bool.and_eq_true] at hop2
    obtain ⟨c1, c2⟩ := hop2
    simp only [Bool.and_eq_true, Nat.beq_eq, Nat.ble_eq, decide_eq_true_eq] at c2
    obtain ⟨c2, c3, c4, c4r, c5, c6⟩ := c2
    obtain ⟨h306, hlink, hna⟩ := hch c1
    have e31 := b31 c6 c5
    obtain ⟨a, as', rfl, ha1, ha2⟩ := hsplit e31
    rw [e31] at hna
    have hn' : (as'.map (cz G)).length = m_na r1 := by
      rw [List.length_map]
      have h1 : (Value.ref a :: as').length = m_na r1 + 1 := by rw [hl]; exact hna
      exact Nat.succ.inj h1
    have hy1 : m_nm r1 = "<init>" := by
      have h6 := List.all_eq_true.mp mt_6 r1 (List.mem_range.mpr h306)
      rw [c4] at h6
      exact of_decide_eq_true h6
    have hG : GoodIn gw (m_w r1 :: gw) := gi_mw (ws := []) h306 (fun w hw => by cases hw)
    refine vx_runI (b := adr G a) (As := as'.map (cz G)) (Ts := gw) S hM (cwI (m_na r1) hts hG (by rw [mw_nil c2, c4r]) rfl rfl (hts _ (own_ini (by omega))) (hts _ hlink) (hts _ (gw_C c3 (Nat.le_of_ble_eq_true rfl) rfl)) hy1 ⟨(m_own_plain (by omega)).2.1, (m_own_plain (by omega)).2.2, m_par h306⟩ (hRR h306)) ⟨Pc_blind, hpc⟩ rfl hn' hls ?_ (lv_room h8') hd ⟨hc, hs⟩
    show ((Value.ref a :: as').reverse ++ t).map (cz G) = _
    simp
    rfl
end SH2
