/-! SOUNDNESS, Q: the main induction -/
/-- what stays fixed in a frame of method k -/
def Frm (p : Program) (l : Launch) (R : Room) (s : State) (m : MethodId) (args : Array Value) (meth : Method) (c : Code) (V : Nat → Nat) (G : Nat × Nat × Nat × Nat) (D : va_G) (cT : ClassId × ClassId × ClassId) (L : Nat) (xs : Nat → Int32) (d k : Nat) : Prop :=
  k < 307 ∧ l.stackTraces = false ∧ p.tables.exec = Jvm.exec ∧ c.code = m_b k ∧ c.maxLocals = m_L k ∧ s.vm.findClass (m_own k) = some m.cls ∧ (∀ w ∈ gw, w.before args s = true) ∧ Wst V G D cT L xs s ∧ c.exceptionTable.toList = tableOf (m_hh k) ∧ meth.locks = false ∧ meth.sig.returnType = m_ret k ∧ (isInit k = true → meth.name = "<init>") ∧ d + 10 ≤ R.frames ∧ 100 * d + 200 ≤ R.locals
/-- from here on the machine does what the run says -/
def Snd (l : Launch) (V : Nat → Nat) (G : Nat × Nat × Nat × Nat) (D : va_G) (cT : ClassId × ClassId × ClassId) (L : Nat) (xs : Nat → Int32) (ini : Bool) (n : Nat) : Prop :=
  ∀ (d k pc : Nat) (ls : List (Option Value)) (st : List Value) (σ σ0 : PS) (o : PO) (p : Program) (e : Env) (R : Room) (s : State) (m : MethodId) (args : Array Value) (below : List Frame) (meth : Method) (c : Code) (H : Heap) (locs : List Loc) (cells slots : Nat) (lsM : Array Slot),
    run ini n d k pc ls st σ = some o → Frm p l R s m args meth c V G D cT L xs d k → Wmd G D cT L xs ini σ H → va_S (fun q : Nat => G.1 ≤ q) s.heap H locs → (ini = true → s.heap.size + cells ≤ G.1 + xN (XX σ)) → LV G lsM (m_L k) ls →
    leX ini (XX σ0) (XX σ) → cells = xC (XX σ) - xC (XX σ0) → slots = xS (XX σ) - xS (XX σ0) → xC (oX o) - xC (XX σ0) ≤ R.cells → xS (oX o) - xS (XX σ0) ≤ R.slots →
    W p l e R s m args below meth c H locs cells slots (vx_MQ below (QcM G D cT L xs ini o) (XcM G D cT L xs ini o) args s (xC (oX o) - xC (XX σ0)) (xS (oX o) - xS (XX σ0)) (fun q => G.1 ≤ q)) (F0 m pc lsM (st.map (cz G)))
theorem Cnt_snd {l : Launch} {V : Nat → Nat} {G : Nat × Nat × Nat × Nat} {D : va_G} {cT : ClassId × ClassId × ClassId} {L : Nat} {xs : Nat → Int32} {ini : Bool} {n d k : Nat} {As : List Value} {σ : PS} {o : PO} (hS : Snd l V G D cT L xs ini n) (hl : l.stackTraces = false) (hk : k < 306) (hlen : (argl As).length ≤ m_L k) (h : run ini n d k 0 (padl (m_L k) (argl As)) [] σ = some o) : Cnt l V G D cT L xs ini d k As σ o := by
  refine Cnt_of hk hlen ?_
  intro p e s m args below meth c lsM hx hb hml hnd hmt hown hts hWs hWd ht hlocks hret hLV
  exact hS d k 0 _ [] σ σ o p e _ s m args below meth c s.heap [] 0 0 lsM h ⟨by omega, hl, hx, hb, hml, hown, hts, hWs, ht, hlocks, hret, nm_of hk hnd hmt, Nat.le_refl _, Nat.le_refl _⟩ hWd.1 ⟨Nat.le_refl _, fun _ _ _ => rfl, fun _ h => by cases h⟩ (fun q => Nat.le_of_eq (hWd.2 q)) hLV leX_rfl (Nat.sub_self _).symm (Nat.sub_self _).symm (Nat.le_refl _) (Nat.le_refl _)
theorem Snd_0 {l : Launch} {V : Nat → Nat} {G : Nat × Nat × Nat × Nat} {D : va_G} {cT : ClassId × ClassId × ClassId} {L : Nat} {xs : Nat → Int32} {ini : Bool} : Snd l V G D cT L xs ini 0 := by
  intro d k pc ls st σ σ0 o p e R s m args below meth c H locs cells slots lsM h
  cases h
