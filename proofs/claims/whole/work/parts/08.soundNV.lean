/-! SOUNDNESS, NV: String's methods (charAt, length, indexOf) -/
section SNV
variable {p : Program} {l : Launch} {e : Env} {R : Room} {s : State} {m : MethodId} {args : Array Value} {below : List Frame} {meth : Method} {c : Code} {H : Heap} {locs : List Loc} {cells slots : Nat} {Q : State → Prop}
variable {V : Nat → Nat} {G : Nat × Nat × Nat × Nat} {D : va_G} {cT : ClassId × ClassId × ClassId} {L : Nat} {xs : Nat → Int32}
theorem so_jv {k pc ix r1 r2 r3 : Nat} {v : Value} {st : List Value} {K : List Value → Option PO} {o : PO} {ls : Array Slot} (hk : k < 307) (hx : p.tables.exec = Jvm.exec) (hb : c.code = m_b k) (hml : c.maxLocals = m_L k) (hls : ls.size = m_L k) (hown : s.vm.findClass (m_own k) = some m.cls) (hts : ∀ w ∈ gw, w.before args s = true)
    (hWs : Wst V G D cT L xs s) (hS : va_S (fun q : Nat => G.1 ≤ q) s.heap H locs) (hR : 10 ≤ R.frames ∧ 200 ≤ R.locals) (hc : cells ≤ R.cells) (hs : slots ≤ R.slots) (hr : 1000 ≤ r1)
    (hd : decode (m_b k) pc = .ok (.invokevirtual ix, 3)) (hop : rowOp k pc (.invokevirtual ix) (pc + 3) r1 r2 r3 v = true) (h : jdkF r1 st K = some o)
    (kk : ∀ t, K t = some o → W p l e R s m args below meth c H locs cells slots Q (F0 m (pc + 3) ls (t.map (cz G)))) : W p l e R s m args below meth c H locs cells slots Q (F0 m pc ls (st.map (cz G))) := sorry
end SNV
