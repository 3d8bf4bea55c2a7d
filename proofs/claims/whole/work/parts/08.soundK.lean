/-! SOUNDNESS, K: an exception that comes to a call: caught here, or on to the caller -/
theorem LV_stR {G : Nat × Nat × Nat × Nat} {lsM : Array Slot} {n i : Nat} {ls : List (Option Value)} {v : Value} (h : lv_has lsM n ((i, v) :: (asl G 0 ls).filter (fun q => !(q.1 == i) && !(q.1 + 1 == i && q.2.category == 2)))) : LV G lsM n (lset (lkl ls i) i none) := by
  refine lv_fewer h fun q hq => ?_
  obtain ⟨j, w, rfl, hj⟩ := asl_to hq
  rw [Nat.zero_add]
  by_cases e : j = i
  · subst e
    cases lget_eq (w := none) hj
  · rw [lget_ne e] at hj
    obtain ⟨h1, h2⟩ := lget_kl hj
    refine List.mem_cons_of_mem _ (List.mem_filter.mpr ⟨by have := asl_of (G := G) (i := 0) h1; rwa [Nat.zero_add] at this, ?_⟩)
    simp only [cz_cat, Bool.and_eq_true, Bool.not_eq_true', beq_eq_false_iff_ne, Bool.and_eq_false_imp, beq_iff_eq]
    exact ⟨e, fun a b => h2 ⟨a, b⟩⟩
section SK
variable {p : Program} {l : Launch} {e : Env} {R : Room} {s : State} {m : MethodId} {args : Array Value} {below : List Frame} {meth : Method} {c : Code} {H : Heap} {locs : List Loc} {cells slots : Nat}
variable {V : Nat → Nat} {G : Nat × Nat × Nat × Nat} {D : va_G} {cT : ClassId × ClassId × ClassId} {L : Nat} {xs : Nat → Int32} {ini : Bool} {σ : PS}
variable {mc ms : Nat} {free : Addr → Prop} {Qc : Array Value → State → Outcome → State → Prop} {XC : String → State → State → Prop}
theorem so_kx {k pc E : Nat} {ce : Cell} {q : Addr} {lsM : Array Slot} {ls : List (Option Value)} {t : List Value} (hk : k < 307) (hx : p.tables.exec = Jvm.exec) (hb : c.code = m_b k) (hown : s.vm.findClass (m_own k) = some m.cls) (hts : ∀ w ∈ gw, w.before args s = true)
    (ht : c.exceptionTable.toList = tableOf (m_hh k)) (hlocks : meth.locks = false) (hcov : ∀ x ∈ m_hh k, pc < x.2.1)
    (hWs : Wst V G D cT L xs s) (hLV : LV G lsM (m_L k) ls) (h1 : 1 ≤ E) (h4 : E ≤ 4) (hce : H[q]? = some ce) (hcv : ce.vm = .none) (hcl : s.vm.findClass (excN E) = some ce.cls)
    (ko : hnd k E = 0 → (∀ U : State, U.heap = H → s.vm.Alike U.vm → XC (excN E) s U) ∧ (∀ z ∈ locs, free z.base) ∧ cells ≤ mc ∧ slots ≤ ms)
    (kk : ∀ (h : Nat) (lsM' : Array Slot), hnd k E = h + 1 → LV G lsM' (m_L k) (lset (lkl ls (fe k (h + 1)).2.2.1) (fe k (h + 1)).2.2.1 none) → W p l e R s m args below meth c H locs cells slots (vx_MQ below Qc XC args s mc ms free) (F0 m (fe k (h + 1)).2.1 lsM' [])) :
    vx_W p l e R s m args below meth c H locs cells slots (vx_MQ below Qc XC args s mc ms free) (F0 m pc lsM (t.map (cz G))) q := by
  have hn1 : hnR (hnd k E) E (m_hh k) = true := by
    have h := List.all_eq_true.mp hn_1 k (List.mem_range.mpr hk)
    simp only [Bool.and_eq_true] at h
    have : E = 1 ∨ E = 2 ∨ E = 3 ∨ E = 4 := by omega
    rcases this with rfl | rfl | rfl | rfl
    · exact h.1
    · exact h.2.1
    · exact h.2.2.1
    · exact h.2.2.2
  have h31 : ∀ x ∈ m_hh k, m_ci k = 31 ∧ hst k x.2.2.1 = true := by
    intro x hx
    have h := List.all_eq_true.mp (List.all_eq_true.mp hn_3 k (List.mem_range.mpr hk)) x hx
    rw [Bool.and_eq_true] at h
    exact ⟨Nat.eq_of_beq_eq_true h.2, h.1⟩
  have hN := hWs.2.2.2.2.2.2.2.2.2.2.2.2
  rcases hnR_at hn1 with ⟨g0, g1⟩ | ⟨pre, x, suf, g1, g2, g3, g4, g5, g6, g7⟩
  · obtain ⟨k1, k2, k3, k4⟩ := ko g0
    refine vx_outP hown hlocks (fun z hz => ?_) hce hcv hcl k1 k2 k3 k4
    rw [ht] at hz
    cases hh : m_hh k with
    | nil => rw [hh] at hz; cases hz
    | cons x0 t0 =>
      exact hn_pass (pre := m_hh k) hk (h31 x0 (by rw [hh]; exact List.mem_cons_self)).1 hts hN h1 h4 g1 z hz
  · have hxm : x ∈ m_hh k := by rw [g1]; exact List.mem_append_right _ List.mem_cons_self
    obtain ⟨hci, hs3⟩ := h31 x hxm
    obtain ⟨q1, q2, q3⟩ := ct_link hk hci g4
    obtain ⟨h, hh⟩ : ∃ h, hnd k E = h + 1 := ⟨hnd k E - 1, by omega⟩
    rw [g6, hh] at hs3
    have hcast := va_Nw.use (A := args) rfl (hWs.2.2.2.2.2.2.2.2.2.2.2.1 _ (cst_in h1 h4))
    refine vx_catch (name := excN E) hown (tableOf pre) ⟨x.1, x.2.1, x.2.2.1, x.2.2.2⟩ (tableOf suf) (by rw [ht, g1]; simp [tableOf]) (hn_pass hk hci hts hN h1 h4 g2) ?_ q2 (hts _ (by rw [← g5]; exact q1)) hcast hce hcv hcl ?_
    · have := hcov x hxm
      simp [covers, g3, this]
    · show W p l e R s m args below meth c H locs cells slots _ (F0 m x.2.2.1 lsM [.ref q])
      rw [g6, hh]
      unfold hst at hs3
      rcases rowOK k (h + 1) with hz | ⟨hfe, hrow⟩
      · generalize he : fe k (h + 1) = r at hs3 hz
        obtain ⟨i, nx, r1, r2, r3, v⟩ := r
        dsimp only at hs3 hz
        subst hz
        cases i <;> dsimp only at hs3 <;> cases hs3
      · unfold rowChk at hrow
        rw [← hfe] at hrow
        have kk' := fun lsM' => kk h lsM' hh
        generalize he : fe k (h + 1) = r at hs3 hrow kk'
        obtain ⟨i, nx, r1, r2, r3, v⟩ := r
        dsimp only at hs3 hrow kk'
        cases i with
        | astore_n j =>
          have h9 : (Nat.beq nx 0 || (decide (decode (m_b k) (h + 1) = .ok (.astore_n j, nx - (h + 1))) && (Nat.ble (h + 1 + 1) nx && (Nat.beq (nx - (h + 1)) 1 && (Nat.beq j.val r1 && Nat.ble (r1 + 1) (m_L k)))))) = true := hrow
          have hz : Nat.beq nx 0 = false := by
            cases e0 : Nat.beq nx 0 with
            | false => rfl
            | true => rw [Nat.eq_of_beq_eq_true e0] at hs3; cases hs3
          rw [hz] at h9
          simp only [Bool.false_or, Bool.and_eq_true, Nat.beq_eq, Nat.ble_eq, decide_eq_true_eq] at h9
          obtain ⟨d1, d2, d3, d4, d5⟩ := h9
          rw [d3] at d1
          have en : nx = h + 1 + 1 := by omega
          subst en
          refine lv_astore_n hx hb d1 d4 hLV (by omega) rfl (fun ls' hl' => kk' ls' (LV_stR hl'))
        | astore j =>
          have h9 : (Nat.beq nx 0 || (decide (decode (m_b k) (h + 1) = .ok (.astore j, nx - (h + 1))) && (Nat.ble (h + 1 + 1) nx && (Nat.beq (nx - (h + 1)) 2 && (Nat.beq j r1 && Nat.ble (r1 + 1) (m_L k)))))) = true := hrow
          have hz : Nat.beq nx 0 = false := by
            cases e0 : Nat.beq nx 0 with
            | false => rfl
            | true => rw [Nat.eq_of_beq_eq_true e0] at hs3; cases hs3
          rw [hz] at h9
          simp only [Bool.false_or, Bool.and_eq_true, Nat.beq_eq, Nat.ble_eq, decide_eq_true_eq] at h9
          obtain ⟨d1, d2, d3, d4, d5⟩ := h9
          rw [d3] at d1
          subst d4
          have en : nx = h + 1 + 2 := by omega
          subst en
          refine lv_astore hx hb d1 hLV (by omega) rfl (fun ls' hl' => kk' ls' (LV_stR hl'))
        | _ => cases hs3
end SK
