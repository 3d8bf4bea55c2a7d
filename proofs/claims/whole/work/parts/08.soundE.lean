/-! SOUNDNESS, E: fields written, arrays -/
section SE
variable {p : Program} {l : Launch} {e : Env} {R : Room} {s : State} {m : MethodId} {args : Array Value} {below : List Frame} {meth : Method} {c : Code} {H : Heap} {locs : List Loc} {cells slots : Nat} {Q : State → Prop}
variable {G : Nat × Nat × Nat × Nat} {D : va_G} {cT : ClassId × ClassId × ClassId} {L : Nat} {xs : Nat → Int32} {ini : Bool} {σ : PS}
theorem is01_or {x : Int32} (h : is01 x = true) : x = 0 ∨ x = 1 := (obl_iff _).mp h
theorem so_pf {k pc r1 r2 r3 ix a : Nat} {w : Value} {K : PS → Option PO} {o : PO} {ls : Array Slot} {t : List Value} (hk : k < 307) (hx : p.tables.exec = Jvm.exec) (hb : c.code = m_b k) (hown : s.vm.findClass (m_own k) = some m.cls) (hts : ∀ w ∈ gw, w.before args s = true) (hnm : isInit k = true → meth.name = "<init>")
    (hK : va_K D vwC (tyL cT) s) (hW : Wmd G D cT L xs ini σ H) (hS : va_S (fun q : Nat => G.1 ≤ q) s.heap H locs)
    (hd : decode (m_b k) pc = .ok (.putfield ix, 3)) (hop : rowOp k pc (.putfield ix) (pc + 3) r1 r2 r3 .null = true) (h : (bif Nat.beq (objc a) (r2 / 4) && okN ini σ a then pfF ini σ a r1 (r2 % 4) w K else none) = some o)
    (kk : ∀ (σ' : PS) (H1 : Heap) (locs1 : List Loc), K σ' = some o → Wmd G D cT L xs ini σ' H1 → va_S (fun q : Nat => G.1 ≤ q) s.heap H1 locs1 → xC (XX σ') = xC (XX σ) → xS (XX σ') = xS (XX σ) → xN (XX σ') = xN (XX σ) → W p l e R s m args below meth c H1 locs1 cells slots Q (F0 m (pc + 3) ls t)) : W p l e R s m args below meth c H locs cells slots Q (F0 m pc ls (cz G w :: .ref (adr G a) :: t)) := by
  have hop2 : ((isC r3 (0, m_ci k, ix, r2 / 4, r1) && (Nat.ble (r1 + 1) (cN (r2 / 4)).2.2 && (Nat.ble (r2 / 4 + 1) 13 && Nat.beq (fkT (r2 / 4) r1) (r2 % 4)))) && (bif ((cN (r2 / 4)).2.1 r1).2.2.2 then Nat.beq (r2 % 4) 2 && (Nat.beq (r2 / 4) (m_ci k) && isInit k) else !Nat.beq (r2 % 4) 2)) = true := hop
  cases hc : (Nat.beq (objc a) (r2 / 4) && okN ini σ a) with
  | false => rw [hc] at h; cases h
  | true =>
    rw [hc] at h
    dsimp only [cond] at h
    simp only [Bool.and_eq_true, Nat.beq_eq, Nat.ble_eq] at hc
    rw [Bool.and_eq_true] at hop2
    obtain ⟨hop2, hfin⟩ := hop2
    simp only [Bool.and_eq_true, Nat.beq_eq, Nat.ble_eq] at hop2
    obtain ⟨h1, h2⟩ := hc
    obtain ⟨g1, g2, g3, g4⟩ := hop2
    rw [← h1] at g1 g2 g3 g4 hfin
    have hci : objc a < 13 := by omega
    have ha := objc_obj (o := a) (by omega)
    have hn := okN_lt hW h2 ha.1
    have hnf : r1 < nfT (objc a) := by rw [← (cN_at hci).2]; omega
    have hr : r1 < (cN (objc a)).2.2 := by omega
    have hD := wsO_D (G := G) (cT := cT) hW.2.1
    obtain ⟨ty0, hty0⟩ := cl_ty hci
    obtain ⟨ty, hpd, hty⟩ := kd_ty (kd_at hci hnf)
    rw [own_ci hk] at hown
    have hws : (wsO G cT σ)[a]? = some (adr G a, .inr (objc a, fdL G σ a)) := by rw [wsO_at hn, ceO_obj (by omega)]
    have hsame : ∀ x, s.fieldFound? ((cN (objc a)).2.1 r1).1 ((cN (objc a)).2.1 r1).2.1 ((cN (objc a)).2.1 r1).2.2.1 = some x → s.fieldFound? (clN (objc a)) ((cN (objc a)).2.1 r1).2.1 ((cN (objc a)).2.1 r1).2.2.1 = some x := fun x hxx => by rw [cl_self hci hr] at hxx; exact hxx
    have hlink := hts _ (gw_C g1 (Nat.le_of_ble_eq_true rfl) rfl)
    have hlen : r1 < (fdL G σ a).length := by rw [fdL_len]; exact hnf
    rw [← g4] at h hfin
    have nf : fkT (objc a) r1 ≠ 2 → ((cN (objc a)).2.1 r1).2.2.2 = false := by
      intro q
      cases hf : ((cN (objc a)).2.1 r1).2.2.2 with
      | false => rfl
      | true =>
        rw [hf] at hfin
        simp only [cond, Bool.and_eq_true, Nat.beq_eq] at hfin
        exact absurd hfin.1 q
    have step : ∀ (v : Value) (σ' : PS), narrow ty v = v → fits ty v = true → fkT (objc a) r1 ≠ 2 → K σ' = some o → (∀ H1, va_P D vwC ((wsO G cT σ).set a (adr G a, .inr (objc a, (fdL G σ a).set r1 v))) H1 → Wmd G D cT L xs ini σ' H1) → xC (XX σ') = xC (XX σ) → xS (XX σ') = xS (XX σ) → xN (XX σ') = xN (XX σ) → W p l e R s m args below meth c H locs cells slots Q (F0 m pc ls (v :: .ref (adr G a) :: t)) := by
      intro v σ' e1 e2 e3 e4 e5 e6 e7 e8
      exact va_put (C := (cN (objc a)).1) (T := (cN (objc a)).2.1) (N := (cN (objc a)).2.2) (ci := objc a) (fs := fdL G σ a) hx hb hts (gw_cls hci) ty0 hty0 (cl_nm hci) hown hK hW.1 hD hS a hws (cN_at hci).1 r1 hr hlink hsame (nf e3) hpd e1 e2 hlen hd (fun H1 locs1 hP1 _ hS1 => kk σ' H1 locs1 e4 (e5 H1 hP1) hS1 e6 e7 e8)
    have o13 : objc a < 99 := by omega
    rcases hty with ⟨e1, rfl⟩ | ⟨e1, rfl⟩ | ⟨e1, rfl⟩ | ⟨e1, hrf⟩
    · rw [e1] at h
      cases w with
      | int x =>
        exact step (.int x) (u2 (FI σ) a r1 x, σ.2) rfl rfl (by rw [e1]; decide) h (fun H1 hP1 => Wmd_fld hW o13 hn hnf (by rw [e1]; show Value.int (u2 (FI σ) a r1 x a r1) = _; rw [u2_s]) (fun o' k' q => by
          have e0 : u2 (FI σ) a r1 x o' k' = FI σ o' k' := by
            rcases q with q | q
            · exact u2_o q
            · exact u2_k q
          unfold fdV
          split
          · rfl
          · rfl
          · show Value.int (u2 (FI σ) a r1 x o' k') = _
            rw [e0]) rfl rfl rfl (fun _ => rfl) rfl hP1) rfl rfl rfl
      | _ => cases h
    · rw [e1] at h
      cases w with
      | long x =>
        exact step (.long x) (σ.1, u2 (FL σ) a r1 x, σ.2.2) rfl rfl (by rw [e1]; decide) h (fun H1 hP1 => Wmd_fld hW o13 hn hnf (by rw [e1]; show Value.long (u2 (FL σ) a r1 x a r1) = _; rw [u2_s]) (fun o' k' q => by
          unfold fdV
          split
          · show Value.long (u2 (FL σ) a r1 x o' k') = _
            rcases q with q | q
            · rw [u2_o q]
            · rw [u2_k q]
          · rfl
          · rfl) rfl rfl rfl (fun _ => rfl) rfl hP1) rfl rfl rfl
      | _ => cases h
    · rw [e1] at h
      cases w with
      | int x =>
        have h9 : (bif is01 x then K (u2 (FI σ) a r1 x, σ.2) else none) = some o := h
        cases e9 : is01 x with
        | false => rw [e9] at h9; cases h9
        | true =>
          rw [e9] at h9
          exact step (.int x) (u2 (FI σ) a r1 x, σ.2) (by rcases is01_or e9 with rfl | rfl <;> rfl) (by rcases is01_or e9 with rfl | rfl <;> rfl) (by rw [e1]; decide) h9 (fun H1 hP1 => Wmd_fld hW o13 hn hnf (by rw [e1]; show Value.int (u2 (FI σ) a r1 x a r1) = _; rw [u2_s]) (fun o' k' q => by
            have e0 : u2 (FI σ) a r1 x o' k' = FI σ o' k' := by
              rcases q with q | q
              · exact u2_o q
              · exact u2_k q
            unfold fdV
            split
            · rfl
            · rfl
            · show Value.int (u2 (FI σ) a r1 x o' k') = _
              rw [e0]) rfl rfl rfl (fun _ => rfl) rfl hP1) rfl rfl rfl
      | _ => cases h
    · rw [e1] at h
      cases w with
      | ref b =>
        have h9 : (bif ini && Nat.beq b (rft a r1) then K (σ.1, σ.2.1, σ.2.2.1, σ.2.2.2.1, xC (XX σ), xS (XX σ), xN (XX σ), xL (XX σ), u2 (xR (XX σ)) a r1 true) else none) = some o := h
        cases e9 : (ini && Nat.beq b (rft a r1)) with
        | false => rw [e9] at h9; cases h9
        | true =>
          rw [e9] at h9
          rw [Bool.and_eq_true] at e9
          obtain ⟨e8, e9⟩ := e9
          have e9 := Nat.eq_of_beq_eq_true e9
          subst e9
          have hf : ((cN (objc a)).2.1 r1).2.2.2 = true := by
            cases hf : ((cN (objc a)).2.1 r1).2.2.2 with
            | true => rfl
            | false => rw [hf, e1] at hfin; cases hfin
          rw [hf] at hfin
          have hfin2 : (Nat.beq (fkT (objc a) r1) 2 && (Nat.beq (objc a) (m_ci k) && isInit k)) = true := hfin
          simp only [Bool.and_eq_true, Nat.beq_eq] at hfin2
          have hdecl : ((cN (objc a)).2.1 r1).1 = clN (m_ci k) := by rw [cl_self hci hr, hfin2.2.1]; rfl
          refine va_putF (C := (cN (objc a)).1) (T := (cN (objc a)).2.1) (N := (cN (objc a)).2.2) (ci := objc a) (fs := fdL G σ a) (ty := ty) (v := .ref (adr G (rft a r1))) hx hb hts (gw_cls hci) ty0 hty0 (cl_nm hci) hown hK hW.1 hD hS a hws (cN_at hci).1 r1 hr hlink hsame hf (hnm hfin2.2.2) hdecl hpd (by rcases hrf with ⟨x, rfl⟩ | ⟨x, rfl⟩ <;> rfl) (by rcases hrf with ⟨x, rfl⟩ | ⟨x, rfl⟩ <;> rfl) hlen hd (fun H1 locs1 hP1 _ hS1 => kk _ H1 locs1 h9 (Wmd_fld hW o13 hn hnf (by rw [e1]; show (bif u2 (xR (XX σ)) a r1 true a r1 then Value.ref (adr G (rft a r1)) else .null) = _; rw [u2_s]; rfl) (fun o' k' q => by
            unfold fdV
            split
            · rfl
            · show (bif u2 (xR (XX σ)) a r1 true o' k' then Value.ref (adr G (rft o' k')) else .null) = _
              rcases q with q | q
              · rw [u2_o q]
              · rw [u2_k q]
            · rfl) rfl rfl rfl (fun q => by rw [e8] at q; cases q) rfl hP1) hS1 rfl rfl rfl)
      | _ => cases h
/-- one array written -/
theorem Wmd_ari {a : Nat} {f : Nat → Int32} {H1 : Heap} {σ' : PS} {cA : ClassId} (hW : Wmd G D cT L xs ini σ H) (hn : a < xN (XX σ)) (hk : (arrk a).1 = 1 ∧ cA = cT.1 ∨ (arrk a).1 = 3 ∧ cA = cT.2.2) (hs : σ' = (σ.1, σ.2.1, (fun o => if o = a then f else AI σ o), σ.2.2.2))
    (hP : va_P D vwC ((wsO G cT σ).set a (adr G a, .inl (cA, (arrk a).2, .inl f))) H1) : Wmd G D cT L xs ini σ' H1 := by
  obtain ⟨-, h2, h3, h4, h5⟩ := hW
  subst hs
  have ha := arrk_arr (o := a) (by omega)
  refine ⟨?_, h2, h3, ?_, h5⟩
  · rw [wsO_set (σ := σ) (σ' := (σ.1, σ.2.1, (fun o => if o = a then f else AI σ o), σ.2.2.2)) (o := a) (e := .inl (cA, (arrk a).2, .inl f)) rfl hn ?_ (fun i q => ceO_same (by show (if i = a then f else AI σ i) = _; rw [if_neg q]) rfl (fun _ => rfl))]
    · exact hP
    · unfold ceO
      rcases hk with ⟨e1, rfl⟩ | ⟨e1, rfl⟩
      · rw [e1]; show Sum.inl (cT.1, (arrk a).2, Sum.inl (if a = a then f else AI σ a)) = _; rw [if_pos rfl]
      · rw [e1]; show Sum.inl (cT.2.2, (arrk a).2, Sum.inl (if a = a then f else AI σ a)) = _; rw [if_pos rfl]
  · show (if 999 = a then f else AI σ 999) = xs
    rw [if_neg (by omega)]; exact h4
theorem Wmd_arl {a : Nat} {f : Nat → Int64} {H1 : Heap} {σ' : PS} (hW : Wmd G D cT L xs ini σ H) (hn : a < xN (XX σ)) (hk : (arrk a).1 = 2) (hs : σ' = (σ.1, σ.2.1, σ.2.2.1, (fun o => if o = a then f else AL σ o), σ.2.2.2.2))
    (hP : va_P D vwC ((wsO G cT σ).set a (adr G a, .inl (cT.2.1, (arrk a).2, .inr (.inl f)))) H1) : Wmd G D cT L xs ini σ' H1 := by
  obtain ⟨-, h2, h3, h4, h5⟩ := hW
  subst hs
  refine ⟨?_, h2, h3, h4, h5⟩
  rw [wsO_set (σ := σ) (σ' := (σ.1, σ.2.1, σ.2.2.1, (fun o => if o = a then f else AL σ o), σ.2.2.2.2)) (o := a) (e := .inl (cT.2.1, (arrk a).2, .inr (.inl f))) rfl hn ?_ (fun i q => ceO_same rfl (by show (if i = a then f else AL σ i) = _; rw [if_neg q]) (fun _ => rfl))]
  · exact hP
  · unfold ceO
    rw [hk]; show Sum.inl (cT.2.1, (arrk a).2, Sum.inr (Sum.inl (if a = a then f else AL σ a))) = _; rw [if_pos rfl]
theorem ua_if {f : Nat → Nat → Int32} {o j : Nat} {v : Int32} : ua f o j v = fun a => if a = o then upd (f o) j v else f a := by
  funext a
  by_cases h : a = o
  · subst h; rw [if_pos rfl]; exact ua_s
  · rw [if_neg h]; exact ua_o h
theorem ua_ifL {f : Nat → Nat → Int64} {o j : Nat} {v : Int64} : ua f o j v = fun a => if a = o then vp_updL (f o) j v else f a := by
  funext a
  by_cases h : a = o
  · subst h; rw [if_pos rfl]; exact ua_sL
  · rw [if_neg h]; exact ua_o h
theorem ark_of {a kd : Nat} (h : (ark ini σ a).1 = kd) (h0 : kd ≠ 0) : okN ini σ a = true ∧ (arrk a).1 = kd ∧ ark ini σ a = arrk a := by
  unfold ark at h ⊢
  cases e : okN ini σ a with
  | false => rw [e] at h; exact absurd h.symm h0
  | true => rw [e] at h; exact ⟨rfl, h, rfl⟩
theorem obl_c {P : Prop} {a : Option PO} {o : PO} (h : (bif obl P then a else none) = some o) : P ∧ a = some o := by
  cases e : obl P with
  | false => rw [e] at h; cases h
  | true => rw [e] at h; exact ⟨(obl_iff P).mp e, h⟩
theorem bif_c {b : Bool} {a : Option PO} {o : PO} (h : (bif b then a else none) = some o) : b = true ∧ a = some o := by
  cases b with
  | false => cases h
  | true => exact ⟨rfl, h⟩
theorem so_ld {k pc kd : Nat} {i : Instr} {st : List Value} {K : List Value → Option PO} {o : PO} {ls : Array Slot} (hx : p.tables.exec = Jvm.exec) (hb : c.code = m_b k)
    (hK : va_K D vwC (tyL cT) s) (hX : va_X G.2.1 L xs s s.heap) (hbl : G.2.1 < s.heap.size) (hb0 : G.2.1 < G.1) (hW : Wmd G D cT L xs ini σ H) (hS : va_S (fun q : Nat => G.1 ≤ q) s.heap H locs)
    (hd : decode (m_b k) pc = .ok (i, 1)) (hi : i = .iaload ∧ kd = 1 ∨ i = .laload ∧ kd = 2 ∨ i = .baload ∧ kd = 3) (h : ldF ini σ kd st K = some o)
    (kk : ∀ t, K t = some o → W p l e R s m args below meth c H locs cells slots Q (F0 m (pc + 1) ls (t.map (cz G)))) : W p l e R s m args below meth c H locs cells slots Q (F0 m pc ls (st.map (cz G))) := by
  unfold ldF at h
  split at h
  · rename_i j a t
    obtain ⟨h1, h⟩ := bif_c h
    obtain ⟨h2, h⟩ := bif_c h
    have h1 := Nat.eq_of_beq_eq_true h1
    have h2 := inb_in h2
    have k2 := kk _ h
    by_cases e9 : a = 999
    · subst e9
      have ek : kd = 1 := by rw [← h1]; rfl
      subst ek
      rcases hi with ⟨rfl, -⟩ | ⟨-, q⟩ | ⟨-, q⟩
      · have h3 : vp_in j L := by rw [← hW.2.2.2.2]; exact h2
        have e4 : AI σ 999 j.toNatClampNeg = xs j.toNatClampNeg := by rw [hW.2.2.2.1]
        refine va_sld hx hb hX hbl (Nat.not_le.mpr hb0) hS h3 hd ?_
        rw [← e4]
        exact k2
      · cases q
      · cases q
    · have e8 : alk ini σ a = ark ini σ a := by
        unfold alk
        cases e : Nat.beq a 999 with
        | false => rfl
        | true => exact absurd (Nat.eq_of_beq_eq_true e) e9
      rw [e8] at h1 h2
      have h0 : kd ≠ 0 := by rcases hi with ⟨-, q⟩ | ⟨-, q⟩ | ⟨-, q⟩ <;> omega
      obtain ⟨g1, g2, g3⟩ := ark_of h1 h0
      rw [g3] at h2
      have ha := arrk_arr (o := a) (by omega)
      have hn := okN_lt hW g1 ha.1
      have hws := wsO_at (G := G) (cT := cT) hn
      rcases hi with ⟨rfl, rfl⟩ | ⟨rfl, rfl⟩ | ⟨rfl, rfl⟩
      · refine va_iald (cA := cT.1) (f := AI σ a) hx hb hK hW.1 a 0 (by rw [hws]; unfold ceO; rw [g2]; rfl) rfl h2 hd k2
      · refine va_lald (cA := cT.2.1) (f := AL σ a) hx hb hK hW.1 a 1 (by rw [hws]; unfold ceO; rw [g2]; rfl) rfl h2 hd k2
      · refine va_zald (cA := cT.2.2) (f := AI σ a) hx hb hK hW.1 a 2 (by rw [hws]; unfold ceO; rw [g2]; rfl) rfl h2 hd k2
  · cases h
theorem so_st {k pc kd : Nat} {i : Instr} {st : List Value} {K : List Value → PS → Option PO} {o : PO} {ls : Array Slot} (hx : p.tables.exec = Jvm.exec) (hb : c.code = m_b k)
    (hK : va_K D vwC (tyL cT) s) (hW : Wmd G D cT L xs ini σ H) (hS : va_S (fun q : Nat => G.1 ≤ q) s.heap H locs)
    (hd : decode (m_b k) pc = .ok (i, 1)) (hi : i = .iastore ∧ kd = 1 ∨ i = .lastore ∧ kd = 2 ∨ i = .bastore ∧ kd = 3) (h : stF ini σ kd st K = some o)
    (kk : ∀ (t : List Value) (σ' : PS) (H1 : Heap) (locs1 : List Loc), K t σ' = some o → Wmd G D cT L xs ini σ' H1 → va_S (fun q : Nat => G.1 ≤ q) s.heap H1 locs1 → XX σ' = XX σ → W p l e R s m args below meth c H1 locs1 cells slots Q (F0 m (pc + 1) ls (t.map (cz G)))) : W p l e R s m args below meth c H locs cells slots Q (F0 m pc ls (st.map (cz G))) := by
  have hD := wsO_D (G := G) (cT := cT) hW.2.1
  unfold stF at h
  split at h
  · rename_i x j a t
    obtain ⟨h1, h⟩ := bif_c h
    obtain ⟨h2, h⟩ := bif_c h
    have h2 := inb_in h2
    simp only [Bool.and_eq_true, Bool.not_eq_true', Nat.beq_eq] at h1
    obtain ⟨hk2, h1⟩ := h1
    have h0 : kd ≠ 0 := by rcases hi with ⟨-, q⟩ | ⟨-, q⟩ | ⟨-, q⟩ <;> omega
    obtain ⟨g1, g2, g3⟩ := ark_of h1 h0
    rw [g3] at h2
    have ha := arrk_arr (o := a) (by omega)
    have hn := okN_lt hW g1 ha.1
    have hws := wsO_at (G := G) (cT := cT) hn
    rcases hi with ⟨rfl, rfl⟩ | ⟨rfl, rfl⟩ | ⟨rfl, rfl⟩
    · refine va_iast (cA := cT.1) (f := AI σ a) hx hb hK hW.1 hD hS a 0 (by rw [hws]; unfold ceO; rw [g2]; rfl) rfl h2 hd (fun H1 locs1 hP1 _ hS1 => kk t _ H1 locs1 h (Wmd_ari hW hn (Or.inl ⟨g2, rfl⟩) (by rw [ua_if]) hP1) hS1 rfl)
    · cases hk2
    · obtain ⟨h3, h⟩ := bif_c (show (bif is01 x then K t (σ.1, σ.2.1, ua (AI σ) a j.toNatClampNeg x, σ.2.2.2) else none) = some o from h)
      have e5 : vp_nar .boolean x = x := by rcases is01_or h3 with rfl | rfl <;> rfl
      refine va_zast (cA := cT.2.2) (f := AI σ a) hx hb hK hW.1 hD hS a 2 (by rw [hws]; unfold ceO; rw [g2]; rfl) rfl h2 hd (fun H1 locs1 hP1 _ hS1 => kk t _ H1 locs1 h (Wmd_ari hW hn (Or.inr ⟨g2, rfl⟩) (by rw [ua_if]) (by rw [e5] at hP1; exact hP1)) hS1 rfl)
  · rename_i x j a t
    obtain ⟨h1, h7⟩ := bif_c h
    obtain ⟨h2, h8⟩ := bif_c h7
    have h2 := inb_in h2
    simp only [Bool.and_eq_true, Nat.beq_eq] at h1
    obtain ⟨rfl, h1⟩ := h1
    obtain ⟨g1, g2, g3⟩ := ark_of h1 (by decide)
    rw [g3] at h2
    have ha := arrk_arr (o := a) (by omega)
    have hn := okN_lt hW g1 ha.1
    have hws := wsO_at (G := G) (cT := cT) hn
    rcases hi with ⟨-, q⟩ | ⟨rfl, -⟩ | ⟨-, q⟩
    · cases q
    · refine va_last (cA := cT.2.1) (f := AL σ a) hx hb hK hW.1 hD hS a 1 (by rw [hws]; unfold ceO; rw [g2]; rfl) rfl h2 hd (fun H1 locs1 hP1 _ hS1 => kk t _ H1 locs1 h8 (Wmd_arl hW hn g2 (by rw [ua_ifL]) hP1) hS1 rfl)
    · cases q
  · cases h
end SE
