/-! SOUNDNESS, F: objects and arrays made; the length of an array -/
theorem cw_all : (List.range 13).all (fun c => isC (c_p1 c) (9, c, 0, 0, 0) && isC (c_p2 c) (10, c, 0, 0, 0)) = true := by decide +kernel
theorem cw_ini {c : Nat} (h : c < 13) : Cond.initialized (clN c) ∈ gw := by
  have h1 := List.all_eq_true.mp cw_all c (List.mem_range.mpr h)
  rw [Bool.and_eq_true] at h1
  exact gw_C h1.1 (Nat.le_of_ble_eq_true rfl) rfl
theorem cw_ins {c : Nat} (h : c < 13) : Cond.instantiable (clN c) (cN c).2.2 ∈ gw := by
  have h1 := List.all_eq_true.mp cw_all c (List.mem_range.mpr h)
  rw [Bool.and_eq_true] at h1
  exact gw_C h1.2 (Nat.le_of_ble_eq_true rfl) rfl
def nwS (σ : PS) (N : Nat) : PS := (uo (FI σ) (xN (XX σ)) 0, uo (FL σ) (xN (XX σ)) 0, AI σ, AL σ, xC (XX σ) + 1, xS (XX σ) + N, xN (XX σ) + 1, xL (XX σ), uo (xR (XX σ)) (xN (XX σ)) false)
def naS (σ : PS) : PS := (FI σ, FL σ, uo (AI σ) (xN (XX σ)) 0, uo (AL σ) (xN (XX σ)) 0, xC (XX σ) + 1, xS (XX σ) + (arrk (xN (XX σ))).2, xN (XX σ) + 1, xL (XX σ), xR (XX σ))
theorem ac_i : Cond.arrayClass .int ∈ gw := gw_W (p := 179) (by decide +kernel) rfl
theorem ac_l : Cond.arrayClass .long ∈ gw := gw_W (p := 354) (by decide +kernel) rfl
theorem ac_z : Cond.arrayClass .boolean ∈ gw := gw_W (p := 353) (by decide +kernel) rfl
section SF
variable {p : Program} {l : Launch} {e : Env} {R : Room} {s : State} {m : MethodId} {args : Array Value} {below : List Frame} {meth : Method} {c : Code} {H : Heap} {locs : List Loc} {cells slots : Nat} {Q : State → Prop}
variable {G : Nat × Nat × Nat × Nat} {D : va_G} {cT : ClassId × ClassId × ClassId} {L : Nat} {xs : Nat → Int32} {ini : Bool} {σ : PS}
/-- the heap grows by what the method makes, no more -/
theorem W_size {g : JFrame} (h : H.size ≤ s.heap.size + cells → W p l e R s m args below meth c H locs cells slots Q g) : W p l e R s m args below meth c H locs cells slots Q g := by
  intro T hT X
  exact h (by rw [← hT]; exact X.heapSize) T hT X
theorem wsO_top (hP : va_P D vwC (wsO G cT σ) H) (hn : xN (XX σ) ≤ 146) (h0 : G.1 ≤ H.size) : G.1 + xN (XX σ) ≤ H.size := by
  rcases Nat.eq_zero_or_pos (xN (XX σ)) with q | q
  · omega
  · have := (hP (xN (XX σ) - 1) _ (wsO_at (by omega))).lt
    dsimp only at this
    rw [adr_in (by omega)] at this
    omega
theorem bif_and {b : Bool} {a : Option PO} {o : PO} (h : (bif b then a else none) = some o) : b = true ∧ a = some o := bif_c h
theorem so_nw {k pc r1 r2 r3 ix : Nat} {K : Nat → PS → Option PO} {o : PO} {ls : Array Slot} {st : List Value} (hk : k < 307) (hx : p.tables.exec = Jvm.exec) (hb : c.code = m_b k) (hown : s.vm.findClass (m_own k) = some m.cls) (hts : ∀ w ∈ gw, w.before args s = true)
    (hK : va_K D vwC (tyL cT) s) (hW : Wmd G D cT L xs ini σ H) (hS : va_S (fun q : Nat => G.1 ≤ q) s.heap H locs) (h0 : G.1 ≤ s.heap.size) (hsz : ini = true → s.heap.size + cells ≤ G.1 + xN (XX σ))
    (hd : decode (m_b k) pc = .ok (.new ix, 3)) (hr1 : Nat.ble 100 r1 = false) (hop : rowOp k pc (.new ix) (pc + 3) r1 r2 r3 .null = true) (h : nwF ini σ r1 r2 K = some o) (hc : cells + 1 ≤ R.cells) (hs : slots + r2 ≤ R.slots)
    (kk : ∀ (σ' : PS) (H1 : Heap) (locs1 : List Loc) (a : Nat), K a σ' = some o → Wmd G D cT L xs ini σ' H1 → va_S (fun q : Nat => G.1 ≤ q) s.heap H1 locs1 → xC (XX σ') = xC (XX σ) + 1 → xS (XX σ') = xS (XX σ) + r2 → xN (XX σ') = xN (XX σ) + 1 → W p l e R s m args below meth c H1 locs1 (cells + 1) (slots + r2) Q (F0 m (pc + 3) ls (.ref (adr G a) :: st))) : W p l e R s m args below meth c H locs cells slots Q (F0 m pc ls st) := by
  have hop2 : (bif Nat.ble 100 r1 then (Nat.ble 101 r1 && (Nat.ble r1 104 && (isC r3 (8, m_ci k, ix, r1 - 100, 0) && (Nat.beq (m_ci k) 11 && (decide (m_hh k = []) && (decide (decode (m_b k) (pc + 3) = .ok (.dup, 1)) && (decide (decode (m_b k) (pc + 4) = .ok (.invokespecial (excI (r1 - 100)), 3)) && decide (decode (m_b k) (pc + 7) = .ok (.athrow, 1))))))))) else isC r3 (6, m_ci k, ix, r1, 0) && (Nat.ble (r1 + 1) 13 && Nat.beq r2 (cN r1).2.2)) = true := hop
  rw [hr1] at hop2
  have hop3 : (isC r3 (6, m_ci k, ix, r1, 0) && (Nat.ble (r1 + 1) 13 && Nat.beq r2 (cN r1).2.2)) = true := hop2
  simp only [Bool.and_eq_true, Nat.beq_eq, Nat.ble_eq] at hop3
  obtain ⟨g1, g2, g3⟩ := hop3
  unfold nwF at h
  obtain ⟨h1, h⟩ := bif_c h
  simp only [Bool.and_eq_true, Nat.beq_eq, Nat.ble_eq] at h1
  obtain ⟨hini, h1, h2⟩ := h1
  have hci : r1 < 13 := by omega
  rw [own_ci hk] at hown
  have hKn := hK.1 r1 _ (cN_at hci).1
  obtain ⟨ty0, hty0⟩ := cl_ty hci
  refine W_size fun hsize => ?_
  have htop := wsO_top hW.1 hW.2.1 (Nat.le_trans h0 hS.1)
  have hH : H.size = G.1 + xN (XX σ) := by
    have := hsz hini
    omega
  have hnf : nfT (objc (xN (XX σ))) = (cN r1).2.2 := by rw [h1]; exact (cN_at hci).2.symm
  subst g3
  refine W.newcK hx hb hown (hts _ (gw_C g1 (Nat.le_of_ble_eq_true rfl) rfl)) (hts _ (cw_ins hci)) (hts _ (cw_ini hci)) rfl hd hc hs hKn.2.1 (h := adr G (xN (XX σ))) (by rw [adr_in (by omega)]; exact hH) fun H1 kC hkC e1 z1 o1 => ?_
  rw [adr_in (by omega)] at z1 o1
  refine kk (nwS σ (cN r1).2.2) H1 locs (xN (XX σ)) h ?_ ?_ rfl rfl rfl
  · refine ⟨?_, h2, fun q => (by rw [hini] at q; cases q), hW.2.2.2.1, hW.2.2.2.2⟩
    rw [wsO_app (σ := σ) (σ' := nwS σ (cN r1).2.2) (e := .inr (r1, fdL G (nwS σ (cN r1).2.2) (xN (XX σ)))) rfl (by rw [ceO_obj (by omega), h1]) (fun i q => ceO_same rfl rfl (fun k' => by
      unfold fdV
      split
      · show Value.long (uo (FL σ) (xN (XX σ)) 0 i k') = _; rw [uo_o (by omega)]
      · show (bif uo (xR (XX σ)) (xN (XX σ)) false i k' then Value.ref (adr G (rft i k')) else .null) = _; rw [uo_o (by omega)]
      · show Value.int (uo (FI σ) (xN (XX σ)) 0 i k') = _; rw [uo_o (by omega)]))]
    refine (hW.1.kept fun i q hq => o1 q.1 (by have := (hW.1 i q hq).lt; omega)).app (fun i q hq => ?_)
    have hz : i < 1 := (List.getElem?_eq_some_iff.mp hq).1
    rw [show i = 0 by omega] at hq
    cases hq
    refine ⟨_, (cN_at hci).1, (u_born ty0 hts (gw_cls hci) hKn hkC e1 hty0).to fun j hj => ?_⟩
    have hj2 : j < nfT r1 := by rw [← (cN_at hci).2]; exact hj
    unfold vp_V
    rw [List.getD_eq_getElem?_getD, fdL_at (by rw [h1]; exact hj2), h1]
    obtain ⟨ty, hpd, hty⟩ := kd_ty (kd_at hci hj2)
    have ety : ty0 j = ty := Option.some.inj ((hty0 j hj).symm.trans hpd)
    rw [ety]
    rcases hty with ⟨e2, rfl⟩ | ⟨e2, rfl⟩ | ⟨e2, rfl⟩ | ⟨e2, hrf⟩
    · rw [e2]; show _ = Value.int (uo (FI σ) (xN (XX σ)) 0 (xN (XX σ)) j); rw [uo_s]; rfl
    · rw [e2]; show _ = Value.long (uo (FL σ) (xN (XX σ)) 0 (xN (XX σ)) j); rw [uo_s]; rfl
    · rw [e2]; show _ = Value.int (uo (FI σ) (xN (XX σ)) 0 (xN (XX σ)) j); rw [uo_s]; rfl
    · rw [e2]; show _ = (bif uo (xR (XX σ)) (xN (XX σ)) false (xN (XX σ)) j then Value.ref (adr G (rft (xN (XX σ)) j)) else .null); rw [uo_s]
      rcases hrf with ⟨x, rfl⟩ | ⟨x, rfl⟩ <;> rfl
  · exact ⟨Nat.le_trans hS.1 (by omega), fun x q1 q2 => (o1 x (by have := hS.1; omega)).trans (hS.2.1 x q1 q2), hS.2.2⟩
theorem so_na {k pc r1 r2 r3 : Nat} {at_ : ArrayType} {n : Int32} {K : Nat → PS → Option PO} {o : PO} {ls : Array Slot} {st : List Value} (hx : p.tables.exec = Jvm.exec) (hb : c.code = m_b k) (hts : ∀ w ∈ gw, w.before args s = true)
    (hK : va_K D vwC (tyL cT) s) (hW : Wmd G D cT L xs ini σ H) (hS : va_S (fun q : Nat => G.1 ≤ q) s.heap H locs) (h0 : G.1 ≤ s.heap.size) (hsz : ini = true → s.heap.size + cells ≤ G.1 + xN (XX σ))
    (hd : decode (m_b k) pc = .ok (.newarray at_, 2)) (hop : rowOp k pc (.newarray at_) (pc + 2) r1 r2 r3 .null = true) (h : naF ini σ r1 n K = some o) (hc : cells + 1 ≤ R.cells) (hs : slots + (arrk (xN (XX σ))).2 ≤ R.slots)
    (kk : ∀ (σ' : PS) (H1 : Heap) (locs1 : List Loc) (a : Nat), K a σ' = some o → Wmd G D cT L xs ini σ' H1 → va_S (fun q : Nat => G.1 ≤ q) s.heap H1 locs1 → xC (XX σ') = xC (XX σ) + 1 → xS (XX σ') = xS (XX σ) + (arrk (xN (XX σ))).2 → xN (XX σ') = xN (XX σ) + 1 → W p l e R s m args below meth c H1 locs1 (cells + 1) (slots + (arrk (xN (XX σ))).2) Q (F0 m (pc + 2) ls (.ref (adr G a) :: st))) : W p l e R s m args below meth c H locs cells slots Q (F0 m pc ls (.int n :: st)) := by
  unfold naF at h
  obtain ⟨h1, h⟩ := bif_c h
  simp only [Bool.and_eq_true, Nat.beq_eq, Nat.ble_eq, decide_eq_true_eq] at h1
  obtain ⟨hini, h1, hn, h2⟩ := h1
  have hr : r1 ≠ 0 := by
    rintro rfl
    cases at_ <;> cases hop
  have ha := arrk_arr (o := xN (XX σ)) (by omega)
  have hL : (arrk (xN (XX σ))).2 < 2 ^ 31 := by omega
  refine W_size fun hsize => ?_
  have htop := wsO_top hW.1 hW.2.1 (Nat.le_trans h0 hS.1)
  have hH : H.size = G.1 + xN (XX σ) := by
    have := hsz hini
    omega
  have hadr : adr G (xN (XX σ)) = G.1 + xN (XX σ) := adr_in (by omega)
  have fin : ∀ (ty : FieldType) (cA : ClassId) (H1 : Heap), (∀ q, q < adr G (xN (XX σ)) → H1[q]? = H[q]?) → H1.size = adr G (xN (XX σ)) + 1 → va_at D vwC (adr G (xN (XX σ)), ceO G cT (naS σ) (xN (XX σ))) H1 → W p l e R s m args below meth c H1 locs (cells + 1) (slots + (arrk (xN (XX σ))).2) Q (F0 m (pc + 2) ls (.ref (adr G (xN (XX σ))) :: st)) := by
    intro ty cA H1 o1 z1 hat
    rw [hadr] at o1 z1
    refine kk (naS σ) H1 locs (xN (XX σ)) h ?_ ?_ rfl rfl rfl
    · refine ⟨?_, h2, fun q => (by rw [hini] at q; cases q), ?_, hW.2.2.2.2⟩
      · rw [wsO_app (σ := σ) (σ' := naS σ) (e := ceO G cT (naS σ) (xN (XX σ))) rfl rfl (fun i q => ceO_same (by show uo (AI σ) (xN (XX σ)) 0 i = _; exact uo_o (by omega)) (by show uo (AL σ) (xN (XX σ)) 0 i = _; exact uo_o (by omega)) (fun k' => rfl))]
        refine (hW.1.kept fun i q hq => o1 q.1 (by have := (hW.1 i q hq).lt; omega)).app (fun i q hq => ?_)
        have hz : i < 1 := (List.getElem?_eq_some_iff.mp hq).1
        rw [show i = 0 by omega] at hq
        cases hq
        exact hat
      · show uo (AI σ) (xN (XX σ)) 0 999 = xs
        rw [uo_o (by omega)]; exact hW.2.2.2.1
    · exact ⟨Nat.le_trans hS.1 (by omega), fun x q1 q2 => (o1 x (by have := hS.1; omega)).trans (hS.2.1 x q1 q2), hS.2.2⟩
  have hpos : ¬ n < 0 := by rw [hn]; exact nI_pos hL
  have hcl : n.toNatClampNeg = (arrk (xN (XX σ))).2 := by rw [hn]; exact nI_clamp hL
  have hzI : ∀ a b, uo (AI σ) (xN (XX σ)) 0 (xN (XX σ)) b = a → a = 0 := fun a b q => by rw [uo_s] at q; exact q.symm
  have arrc : ∀ ty, ∀ cA cB : ClassId, s.vm.findClass ("[" ++ ty) = some cA → s.vm.findClass ("[" ++ ty) = some cB → cA = cB := fun ty cA cB q1 q2 => Option.some.inj (q1.symm.trans q2)
  cases at_ with
  | int =>
    have e1 : r1 = 1 := Nat.eq_of_beq_eq_true hop
    subst e1
    refine va_newaK (atype := .int) hx hb (hts _ ac_i) rfl hd rfl hpos hcl (by show _ * 4 ≤ _; omega) hc hs (hH.trans hadr.symm) fun H1 cA c1 z1 o1 hAr hNm => fin .int cA H1 o1 z1 ?_
    have hcA : cA = cT.1 := Option.some.inj (hNm.symm.trans (hK.2 0 _ rfl).2)
    subst hcA
    unfold ceO
    rw [h1]
    show H1[_]? = some (vp_cell _ _)
    rw [c1, vp_cell_i]
    congr 2
    funext b
    show _ = Value.int (uo (AI σ) (xN (XX σ)) 0 (xN (XX σ)) b)
    rw [uo_s]; rfl
  | long =>
    have e1 : r1 = 2 := Nat.eq_of_beq_eq_true hop
    subst e1
    refine va_newaK (atype := .long) hx hb (hts _ ac_l) rfl hd rfl hpos hcl (by show _ * 8 ≤ _; omega) hc hs (hH.trans hadr.symm) fun H1 cA c1 z1 o1 hAr hNm => fin .int cA H1 o1 z1 ?_
    have hcA : cA = cT.2.1 := Option.some.inj (hNm.symm.trans (hK.2 1 _ rfl).2)
    subst hcA
    unfold ceO
    rw [h1]
    show H1[_]? = some (vp_cell _ _)
    rw [c1, vp_cell_l]
    congr 2
    funext b
    show _ = Value.long (uo (AL σ) (xN (XX σ)) 0 (xN (XX σ)) b)
    rw [uo_s]; rfl
  | boolean =>
    have e1 : r1 = 3 := Nat.eq_of_beq_eq_true hop
    subst e1
    refine va_newaK (atype := .boolean) hx hb (hts _ ac_z) rfl hd rfl hpos hcl (by show _ * 1 ≤ _; omega) hc hs (hH.trans hadr.symm) fun H1 cA c1 z1 o1 hAr hNm => fin .int cA H1 o1 z1 ?_
    have hcA : cA = cT.2.2 := Option.some.inj (hNm.symm.trans (hK.2 2 _ rfl).2)
    subst hcA
    unfold ceO
    rw [h1]
    show H1[_]? = some (vp_cell _ _)
    rw [c1, vp_cell_i]
    congr 2
    funext b
    show _ = Value.int (uo (AI σ) (xN (XX σ)) 0 (xN (XX σ)) b)
    rw [uo_s]; rfl
  | _ => cases hop
theorem so_al {k pc a : Nat} {o : PO} {ls : Array Slot} {st : List Value} {K : Option PO} (hx : p.tables.exec = Jvm.exec) (hb : c.code = m_b k)
    (hK : va_K D vwC (tyL cT) s) (hX : va_X G.2.1 L xs s s.heap) (hbl : G.2.1 < s.heap.size) (hb0 : G.2.1 < G.1) (hW : Wmd G D cT L xs ini σ H) (hS : va_S (fun q : Nat => G.1 ≤ q) s.heap H locs)
    (hd : decode (m_b k) pc = .ok (.arraylength, 1)) (h : (bif Nat.beq (alk ini σ a).1 0 then none else K) = some o)
    (kk : K = some o → W p l e R s m args below meth c H locs cells slots Q (F0 m (pc + 1) ls (.int (nI (alk ini σ a).2) :: st))) : W p l e R s m args below meth c H locs cells slots Q (F0 m pc ls (.ref (adr G a) :: st)) := by
  cases h1 : Nat.beq (alk ini σ a).1 0 with
  | true => rw [h1] at h; cases h
  | false =>
    rw [h1] at h
    have k2 := kk h
    by_cases e9 : a = 999
    · subst e9
      have e4 : nI (alk ini σ 999).2 = Int32.ofNat L := by show nI (xL (XX σ)) = _; rw [hW.2.2.2.2]; rfl
      rw [e4] at k2
      exact va_slen hx hb hX hbl (Nat.not_le.mpr hb0) hS hd k2
    · have e8 : alk ini σ a = ark ini σ a := by
        unfold alk
        cases e : Nat.beq a 999 with
        | false => rfl
        | true => exact absurd (Nat.eq_of_beq_eq_true e) e9
      rw [e8] at h1 k2
      have h0 : (ark ini σ a).1 ≠ 0 := fun q => by rw [q] at h1; cases h1
      obtain ⟨g1, g2, g3⟩ := ark_of rfl h0
      rw [← g2] at h0
      rw [g3] at k2
      have ha := arrk_arr h0
      have hn := okN_lt hW g1 ha.1
      have hws := wsO_at (G := G) (cT := cT) hn
      have : (arrk a).1 = 1 ∨ (arrk a).1 = 2 ∨ (arrk a).1 = 3 := by omega
      rcases this with q | q | q
      · exact va_alen (cA := cT.1) (x := ((arrk a).2, .inl (AI σ a))) hx hb hK hW.1 a 0 (by rw [hws]; unfold ceO; rw [q]; rfl) rfl rfl hd k2
      · exact va_alen (cA := cT.2.1) (x := ((arrk a).2, .inr (.inl (AL σ a)))) hx hb hK hW.1 a 1 (by rw [hws]; unfold ceO; rw [q]; rfl) rfl rfl hd k2
      · exact va_alen (cA := cT.2.2) (x := ((arrk a).2, .inl (AI σ a))) hx hb hK hW.1 a 2 (by rw [hws]; unfold ceO; rw [q]; rfl) rfl rfl hd k2
end SF
