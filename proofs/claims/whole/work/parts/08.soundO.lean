/-! SOUNDNESS, O: a contract from the walk of the body -/
section SO
variable {l : Launch} {V : Nat → Nat} {G : Nat × Nat × Nat × Nat} {D : va_G} {cT : ClassId × ClassId × ClassId} {L : Nat} {xs : Nat → Int32} {ini : Bool} {σ : PS}
theorem Cnt_of {d k : Nat} {As : List Value} {o : PO} (hk : k < 306) (hlen : (argl As).length ≤ m_L k)
    (body : ∀ (p : Program) (e : Env) (s : State) (m : MethodId) (args : Array Value) (below : List Frame) (meth : Method) (c : Code) (lsM : Array Slot), p.tables.exec = Jvm.exec → c.code = m_b k → c.maxLocals = m_L k → s.methodNamed? (m_y k) = some m → s.vm.method? m = some meth → s.vm.findClass (m_own k) = some m.cls → (∀ w ∈ gw, w.before args s = true) → Wst V G D cT L xs s → Wdy G D cT L xs ini σ s → c.exceptionTable.toList = tableOf (m_hh k) → meth.locks = false → meth.sig.returnType = m_ret k → LV G lsM (m_L k) (padl (m_L k) (argl As)) →
      W p l e (rmF d (xC (oX o) - xC (XX σ)) (xS (oX o) - xS (XX σ))) s m args below meth c s.heap [] 0 0 (vx_MQ below (QcM G D cT L xs ini o) (XcM G D cT L xs ini o) args s (xC (oX o) - xC (XX σ)) (xS (oX o) - xS (XX σ)) (fun q => G.1 ≤ q)) (F0 m 0 lsM [])) : Cnt l V G D cT L xs ini d k As σ o := by
  have hpl := (m_own_plain (k := k) (by omega)).1
  by_cases hh : m_hh k = []
  · refine vx_ofW (cc := m_b k) (maxL := m_L k) (ret := m_ret k) (ws' := gw) hpl (by rw [mw_nil hh]) ?_
    intro p e s m args below meth c s₁ B hml ht hP
    have hts : ∀ w ∈ gw, w.before args s = true := fun w hw => atoms_spec (ws := m_w k :: gw) B.pre w (List.mem_cons_of_mem _ hw)
    obtain ⟨ls, e1, e2⟩ := LV_entry (G := G) (m := m) hlen
    have ha : args = (As.map (cz G)).toArray := hP.1
    rw [ha, e1, ← ha]
    refine body p e s m args below meth c ls B.exec B.bytes hml B.named B.method (findClass_of_methodNamed B.named) hts hP.2.1 hP.2.2 ?_ B.notSynchronized B.returns e2
    rw [hh]
    cases hx : c.exceptionTable.toList with
    | nil => rfl
    | cons x t => exact (ht x (by rw [hx]; exact List.mem_cons_self)).elim
  · refine vx_ofWH (cc := m_b k) (maxL := m_L k) (ret := m_ret k) (hh := m_hh k) (ws' := gw) hpl (by rw [mw_cons hh]) ?_
    intro p e s m args below meth c s₁ B hml hP
    have hts : ∀ w ∈ gw, w.before args s = true := fun w hw => atoms_spec (ws := m_w k :: gw) B.pre w (List.mem_cons_of_mem _ hw)
    obtain ⟨ls, e1, e2⟩ := LV_entry (G := G) (m := m) hlen
    have ha : args = (As.map (cz G)).toArray := hP.1
    rw [ha, e1, ← ha]
    exact body p e s m args below meth c ls B.exec B.bytes hml B.named B.method (findClass_of_methodNamed B.named) hts hP.2.1 hP.2.2 (vx_table (x := m_y k) B (by have := atoms_spec (ws := m_w k :: gw) B.pre (m_w k) List.mem_cons_self; rw [mw_cons hh] at this; exact this)) B.notSynchronized B.returns e2
end SO
