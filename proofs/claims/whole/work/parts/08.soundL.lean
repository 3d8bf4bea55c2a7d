/-! SOUNDNESS, L: returns -/
section SL
variable {p : Program} {l : Launch} {e : Env} {R : Room} {s : State} {m : MethodId} {args : Array Value} {below : List Frame} {meth : Method} {c : Code} {H : Heap} {locs : List Loc} {cells slots : Nat}
variable {V : Nat → Nat} {G : Nat × Nat × Nat × Nat} {D : va_G} {cT : ClassId × ClassId × ClassId} {L : Nat} {xs : Nat → Int32} {ini : Bool} {σ : PS}
theorem hsz_eq {g : JFrame} {Q : State → Prop} (hW : Wmd G D cT L xs ini σ H) (hS : va_S (fun q : Nat => G.1 ≤ q) s.heap H locs) (h0 : G.1 ≤ s.heap.size) (hsz : ini = true → s.heap.size + cells ≤ G.1 + xN (XX σ)) (k : (ini = true → H.size = G.1 + xN (XX σ)) → W p l e R s m args below meth c H locs cells slots Q g) : W p l e R s m args below meth c H locs cells slots Q g :=
  W_size fun hsize => k fun q => by
    have h1 := hsz q
    have h2 := wsO_top hW.1 hW.2.1 (Nat.le_trans h0 hS.1)
    omega
theorem so_iret {k pc nx r1 r2 r3 : Nat} {v : Value} {st : List Value} {o : PO} {lsM : Array Slot} (hx : p.tables.exec = Jvm.exec) (hb : c.code = m_b k) (hret : meth.sig.returnType = m_ret k) (hlocks : meth.locks = false)
    (hW : Wmd G D cT L xs ini σ H) (hS : va_S (fun q : Nat => G.1 ≤ q) s.heap H locs) (hsz : ini = true → H.size = G.1 + xN (XX σ)) (hd : decode (m_b k) pc = .ok (.ireturn, 1)) (hop : rowOp k pc .ireturn nx r1 r2 r3 v = true)
    (h : (match st with | [.int x] => bif Nat.beq r1 0 then some (.inl (some (.int x), σ)) else (bif is01 x then some (.inl (some (.int x), σ)) else none) | _ => none) = some o) :
    W p l e R s m args below meth c H locs cells slots (vx_MQ below (QcM G D cT L xs ini o) (XcM G D cT L xs ini o) args s cells slots (fun q => G.1 ≤ q)) (F0 m pc lsM (st.map (cz G))) := by
  have hop2 : (bif Nat.beq r1 0 then decide (m_ret k = some .int) else Nat.beq r1 1 && decide (m_ret k = some .boolean)) = true := hop
  split at h
  · rename_i x
    have hq : ∀ t : State, t.heap = H → s.WarmedH t.vm → QcM G D cT L xs ini (.inl (some (.int x), σ)) args s (.returned (some (.int x))) t := by
      intro t ht _
      exact ⟨⟨x, (), rfl, rfl, by rw [ht]; exact hW, fun q => by rw [ht]; exact hsz q⟩, hS.F ht⟩
    cases er : Nat.beq r1 0 with
    | true =>
      rw [er] at h hop2
      cases h
      exact vx_ret (W.iret hx hb (hret.trans (of_decide_eq_true hop2)) hq hS.2.2 hd hlocks)
    | false =>
      rw [er] at h hop2
      have h2 : (bif is01 x then some (.inl (some (.int x), σ)) else none) = some o := h
      have hop3 : (Nat.beq r1 1 && decide (m_ret k = some .boolean)) = true := hop2
      rw [Bool.and_eq_true] at hop3
      obtain ⟨e9, rfl⟩ := bif_s h2
      exact vx_ret (W.zret hx hb (hret.trans (of_decide_eq_true hop3.2)) (by rcases is01_or e9 with rfl | rfl <;> rfl) hq hS.2.2 hd hlocks)
  · cases h
theorem so_lret {k pc nx r1 r2 r3 : Nat} {v : Value} {st : List Value} {o : PO} {lsM : Array Slot} (hx : p.tables.exec = Jvm.exec) (hb : c.code = m_b k) (hret : meth.sig.returnType = m_ret k) (hlocks : meth.locks = false)
    (hW : Wmd G D cT L xs ini σ H) (hS : va_S (fun q : Nat => G.1 ≤ q) s.heap H locs) (hsz : ini = true → H.size = G.1 + xN (XX σ)) (hd : decode (m_b k) pc = .ok (.lreturn, 1)) (hop : rowOp k pc .lreturn nx r1 r2 r3 v = true)
    (h : (match st with | [.long x] => some (.inl (some (.long x), σ)) | _ => none) = some o) :
    W p l e R s m args below meth c H locs cells slots (vx_MQ below (QcM G D cT L xs ini o) (XcM G D cT L xs ini o) args s cells slots (fun q => G.1 ≤ q)) (F0 m pc lsM (st.map (cz G))) := by
  have hop2 : decide (m_ret k = some .long) = true := hop
  split at h
  · rename_i x
    cases h
    have hq : ∀ t : State, t.heap = H → s.WarmedH t.vm → QcM G D cT L xs ini (.inl (some (.long x), σ)) args s (.returned (some (.long x))) t := by
      intro t ht _
      exact ⟨⟨x, (), rfl, rfl, by rw [ht]; exact hW, fun q => by rw [ht]; exact hsz q⟩, hS.F ht⟩
    exact vx_ret (W.lret hx hb (hret.trans (of_decide_eq_true hop2)) hq hS.2.2 hd hlocks)
  · cases h
theorem so_vret {k pc nx r1 r2 r3 : Nat} {v : Value} {st : List Value} {o : PO} {lsM : Array Slot} (hx : p.tables.exec = Jvm.exec) (hb : c.code = m_b k) (hret : meth.sig.returnType = m_ret k) (hlocks : meth.locks = false)
    (hW : Wmd G D cT L xs ini σ H) (hS : va_S (fun q : Nat => G.1 ≤ q) s.heap H locs) (hsz : ini = true → H.size = G.1 + xN (XX σ)) (hd : decode (m_b k) pc = .ok (.return_, 1)) (hop : rowOp k pc .return_ nx r1 r2 r3 v = true)
    (h : (match st with | [] => some (.inl (none, σ)) | _ => none) = some o) :
    W p l e R s m args below meth c H locs cells slots (vx_MQ below (QcM G D cT L xs ini o) (XcM G D cT L xs ini o) args s cells slots (fun q => G.1 ≤ q)) (F0 m pc lsM (st.map (cz G))) := by
  have hop2 : decide (m_ret k = none) = true := hop
  split at h
  · cases h
    have hq : ∀ t : State, t.heap = H → s.WarmedH t.vm → QcM G D cT L xs ini (.inl (none, σ)) args s (.returned none) t := by
      intro t ht _
      exact ⟨⟨(), rfl, trivial, by rw [ht]; exact hW, fun q => by rw [ht]; exact hsz q⟩, hS.F ht⟩
    exact vx_ret (W.vret hx hb (hret.trans (of_decide_eq_true hop2)) hq hS.2.2 hd hlocks)
  · cases h
end SL
