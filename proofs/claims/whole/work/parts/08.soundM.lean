/-! SOUNDNESS, M: what PacketLaw throws -/
def thN : List String := ["java/lang/RuntimeException", "java/lang/Exception"]
def thL (E : Nat) : List Cond := vx_at0 "PacketLaw" (excI E) (excN E) thN
theorem th_1 : (List.range 4).all (fun e => (thL (e + 1)).all (fun w => decide (w ∈ lw_tbl) && (vx_ot w && (goodWord w || decide (w ∈ lwB))))) = true := by decide +kernel
theorem th_2 : (List.range 4).all (fun e => decide (Cond.initialized (excN (e + 1)) ∈ lw_tbl)) = true := by decide +kernel
theorem th_3 : (List.range 4).all (fun e => Bundle.fit (excN (e + 1))) = true := by decide +kernel
theorem th_4 : thN.all (fun n => Bundle.fit n) = true := by decide +kernel
theorem lwB_in {w : Cond} {U : State} {A : Array Value} (h : w ∈ lwB) (hz : va_Nw w U) : w.before A U = true := by
  have hf := (List.mem_filter.mp h).2
  cases w with
  | declares x => exact va_Nw.use rfl hz
  | castable C T => exact va_Nw.use rfl hz
  | _ => cases hf
section SM
variable {p : Program} {l : Launch} {e : Env} {R : Room} {s : State} {m : MethodId} {args : Array Value} {below : List Frame} {meth : Method} {c : Code} {H : Heap} {locs : List Loc} {cells slots : Nat}
variable {V : Nat → Nat} {G : Nat × Nat × Nat × Nat} {D : va_G} {cT : ClassId × ClassId × ClassId} {L : Nat} {xs : Nat → Int32} {σ : PS}
theorem so_th {k pc ix r1 r2 r3 mc ms : Nat} {o : PO} {lsM : Array Slot} {args' : Array Value} {Qc : Array Value → State → Outcome → State → Prop} (hk : k < 307) (hl : l.stackTraces = false) (hx : p.tables.exec = Jvm.exec) (hb : c.code = m_b k) (hml : c.maxLocals = m_L k) (hown : s.vm.findClass (m_own k) = some m.cls) (hts : ∀ w ∈ gw, w.before args s = true) (hlocks : meth.locks = false)
    (ht : c.exceptionTable.toList = tableOf (m_hh k)) (hls : lsM.size = m_L k) (hR : 10 ≤ R.frames ∧ 200 ≤ R.locals) (hRc : cells + 1 ≤ R.cells ∧ slots + 6 ≤ R.slots)
    (hWs : Wst V G D cT L xs s) (hW : Wmd G D cT L xs false σ H) (hS : va_S (fun q : Nat => G.1 ≤ q) s.heap H locs)
    (hd : decode (m_b k) pc = .ok (.new ix, 3)) (hr1 : Nat.ble 100 r1 = true) (hop : rowOp k pc (.new ix) (pc + 3) r1 r2 r3 .null = true) (hc : cells + 1 ≤ mc) (hs : slots + 6 ≤ ms) :
    W p l e R s m args below meth c H locs cells slots (vx_MQ below Qc (XcM G D cT L xs false (.inr (r1 - 100, thF σ))) args s mc ms (fun q => G.1 ≤ q)) (F0 m pc lsM []) := by
  have hop2 : (bif Nat.ble 100 r1 then (Nat.ble 101 r1 && (Nat.ble r1 104 && (isC r3 (8, m_ci k, ix, r1 - 100, 0) && (Nat.beq (m_ci k) 11 && (decide (m_hh k = []) && (decide (decode (m_b k) (pc + 3) = .ok (.dup, 1)) && (decide (decode (m_b k) (pc + 4) = .ok (.invokespecial (excI (r1 - 100)), 3)) && decide (decode (m_b k) (pc + 7) = .ok (.athrow, 1))))))))) else isC r3 (6, m_ci k, ix, r1, 0) && (Nat.ble (r1 + 1) 13 && Nat.beq r2 (cN r1).2.2)) = true := hop
  rw [hr1] at hop2
  dsimp only [cond] at hop2
  simp only [Bool.and_eq_true, Nat.beq_eq, Nat.ble_eq, decide_eq_true_eq] at hop2
  obtain ⟨g1, g2, g3, g4, g5, g6, g7, g8⟩ := hop2
  have hE1 : 1 ≤ r1 - 100 := by omega
  have hE4 : r1 - 100 ≤ 4 := by omega
  generalize r1 - 100 = E at g3 g7 hE1 hE4
  have hpl : m_own k = "PacketLaw" := by rw [own_ci hk, g4]; rfl
  have en : E - 1 + 1 = E := by omega
  have hr : E - 1 ∈ List.range 4 := List.mem_range.mpr (by omega)
  have t1 := List.all_eq_true.mp th_1 (E - 1) hr
  have t2 := of_decide_eq_true (List.all_eq_true.mp th_2 (E - 1) hr)
  have t3 := List.all_eq_true.mp th_3 (E - 1) hr
  rw [en] at t1 t2 t3
  have hlk := gw_C g3 (Nat.le_of_ble_eq_true rfl) rfl
  have hin : Cond.initialized (excN E) ∈ gw := gw_of t2 rfl
  rw [own_ci hk] at hown
  refine vx_throw0 (cls := excN E) (own := clN (m_ci k)) (ic := excI E) (ik := ix) (names := thN) (A := fun q : Nat => G.1 ≤ q) hx hb hl hown t3 (fun n hn => List.all_eq_true.mp th_4 n hn) (hts _ hlk) (hts _ hin) (fun w hw => ?_) (fun w hw => ?_) (hWs.2.2.2.2.2.2.2.1) (hWs.2.2.2.2.2.2.2.2.1) hS (hls.trans hml.symm) hd g6 g7 g8 (fun x hx => ?_) ?_ ?_ hRc.1 hRc.2 hlocks (fun t hA hsz hk => ?_) hS.2.2 hc hs
  · rw [g4] at hw
    have h1 := List.all_eq_true.mp t1 w hw
    simp only [Bool.and_eq_true, Bool.or_eq_true, decide_eq_true_eq] at h1
    obtain ⟨h1, -, h2⟩ := h1
    rcases h2 with h2 | h2
    · exact hts _ (gw_of h1 h2)
    · exact lwB_in h2 (hWs.2.2.2.2.2.2.2.2.2.2.2.1 _ h2)
  · rcases List.mem_cons.mp hw with rfl | hw
    · rfl
    · rcases List.mem_cons.mp hw with rfl | hw
      · rfl
      · rw [g4] at hw
        have h1 := List.all_eq_true.mp t1 w hw
        simp only [Bool.and_eq_true] at h1
        exact h1.2.1
  · rw [ht, g5] at hx; cases hx
  · show 2 + 3 < _; omega
  · show 0 + (13 * (2 + 1) + 42) ≤ _; omega
  · refine ⟨(), ⟨hE1, hE4⟩, ⟨rfl, ⟨hW.1.kept fun i q hq => hk q.1 (hW.1 i q hq).lt, hW.2.1, hW.2.2.1, hW.2.2.2.1, hW.2.2.2.2⟩, fun q => by cases q⟩, Nat.le_trans hS.1 hsz, fun q h1 h2 => (hk q (Nat.lt_of_lt_of_le h1 hS.1)).trans (hS.2.1 q h1 h2)⟩
end SM
