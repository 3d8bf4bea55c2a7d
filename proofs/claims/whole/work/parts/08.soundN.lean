/-! SOUNDNESS, N: the JDK's own methods (String's three methods are still to be walked) -/
theorem jd_1 : [Cond.static Lib.Math.min.name, .initialized "java/lang/Math", .code Lib.Math.min.name Lib.Math.min.code 2 (some .int), .static Lib.Math.max.name, .code Lib.Math.max.name Lib.Math.max.code 2 (some .int), .static Lib.MathLoose.max_long.x, .code Lib.MathLoose.max_long.x Lib.MathLoose.max_long.code 4 (some .long), .instanceMethod Lib.objectInit, .code Lib.objectInit ⟨#[0xb1]⟩ 1 none].all (fun w => decide (w ∈ lw_tbl) && goodWord w) = true := by decide +kernel
theorem jd_in {w : Cond} (h : w ∈ [Cond.static Lib.Math.min.name, .initialized "java/lang/Math", .code Lib.Math.min.name Lib.Math.min.code 2 (some .int), .static Lib.Math.max.name, .code Lib.Math.max.name Lib.Math.max.code 2 (some .int), .static Lib.MathLoose.max_long.x, .code Lib.MathLoose.max_long.x Lib.MathLoose.max_long.code 4 (some .long), .instanceMethod Lib.objectInit, .code Lib.objectInit ⟨#[0xb1]⟩ 1 none]) : w ∈ gw := by
  have h1 := List.all_eq_true.mp jd_1 w h
  simp only [Bool.and_eq_true, decide_eq_true_eq] at h1
  exact gw_of h1.1 h1.2
theorem jdk_0 {st : List Value} {K : List Value → Option PO} : jdkF 1000 st K = match st with | .int y :: .int x :: t => bif Nat.ble (cats t) 8 then K (.int (if y < x then y else x) :: t) else none | _ => none := rfl
theorem jdk_1 {st : List Value} {K : List Value → Option PO} : jdkF 1001 st K = match st with | .int y :: .int x :: t => bif Nat.ble (cats t) 8 then K (.int (if x < y then y else x) :: t) else none | _ => none := rfl
theorem jdk_2 {st : List Value} {K : List Value → Option PO} : jdkF 1002 st K = match st with | .long y :: .long x :: t => bif Nat.ble (cats t) 8 then K (.long (if y < x then x else y) :: t) else none | _ => none := rfl
theorem jdk_6 {st : List Value} {K : List Value → Option PO} : jdkF 1006 st K = match st with | .ref _ :: t => bif Nat.ble (cats t) 8 then K t else none | _ => none := rfl
section SN
variable {p : Program} {l : Launch} {e : Env} {R : Room} {s : State} {m : MethodId} {args : Array Value} {below : List Frame} {meth : Method} {c : Code} {H : Heap} {locs : List Loc} {cells slots : Nat} {Q : State → Prop} {G : Nat × Nat × Nat × Nat}
theorem so_js {k pc ix r1 r2 r3 : Nat} {v : Value} {st : List Value} {K : List Value → Option PO} {o : PO} {ls : Array Slot} (hk : k < 307) (hx : p.tables.exec = Jvm.exec) (hb : c.code = m_b k) (hml : c.maxLocals = m_L k) (hls : ls.size = m_L k) (hown : s.vm.findClass (m_own k) = some m.cls) (hts : ∀ w ∈ gw, w.before args s = true)
    (hR : 1 ≤ R.frames ∧ 40 ≤ R.locals) (hc : cells ≤ R.cells) (hs : slots ≤ R.slots) (hr : 1000 ≤ r1)
    (hd : decode (m_b k) pc = .ok (.invokestatic ix, 3)) (hop : rowOp k pc (.invokestatic ix) (pc + 3) r1 r2 r3 v = true) (h : jdkF r1 st K = some o)
    (kk : ∀ t, K t = some o → W p l e R s m args below meth c H locs cells slots Q (F0 m (pc + 3) ls (t.map (cz G)))) : W p l e R s m args below meth c H locs cells slots Q (F0 m pc ls (st.map (cz G))) := by
  have hop2 : (bif Nat.ble 1000 r1 then Nat.ble r1 1002 && isC r3 (7, m_ci k, ix, r1, 0) else chkOwn k r1 r2 r3 ix && (Nat.beq (r2 / 1024) 31 && (isC (m_p2 r1) (5, r1, 0, 0, 0) && Nat.beq (m_ci r1) (m_ci k)))) = true := hop
  rw [Nat.ble_eq_true_of_le hr] at hop2
  have hop3 : (Nat.ble r1 1002 && isC r3 (7, m_ci k, ix, r1, 0)) = true := hop2
  rw [Bool.and_eq_true] at hop3
  obtain ⟨h1, h2⟩ := hop3
  have h1 := Nat.le_of_ble_eq_true h1
  have hlk := hts _ (gw_C h2 (Nat.le_of_ble_eq_true rfl) rfl)
  rw [own_ci hk] at hown
  have hr3 : r1 = 1000 ∨ r1 = 1001 ∨ r1 = 1002 := by omega
  have w : ∀ {t : List Value}, Nat.ble (cats t) 8 = true → ((t.map (cz G)).map fun v => v.category).sum ≤ 8 := fun q => by rw [cats_eq]; exact Nat.le_of_ble_eq_true q
  rcases hr3 with rfl | rfl | rfl
  · rw [jdk_0] at h
    split at h
    · obtain ⟨q1, q2⟩ := bif_c h
      have := w q1
      exact va_mmin hx hb (hml.trans hls.symm) hown hlk (hts _ (jd_in (by simp))) (hts _ (jd_in (by simp))) (hts _ (jd_in (by simp))) hR.1 (by omega) hc hs hd (kk _ q2)
    · cases h
  · rw [jdk_1] at h
    split at h
    · obtain ⟨q1, q2⟩ := bif_c h
      have := w q1
      exact va_mmax hx hb (hml.trans hls.symm) hown hlk (hts _ (jd_in (by simp))) (hts _ (jd_in (by simp))) (hts _ (jd_in (by simp))) hR.1 (by omega) hc hs hd (kk _ q2)
    · cases h
  · rw [jdk_2] at h
    split at h
    · obtain ⟨q1, q2⟩ := bif_c h
      have := w q1
      exact va_mmax_long hx hb (hml.trans hls.symm) hown hlk (hts _ (jd_in (by simp))) (hts _ (jd_in (by simp))) (hts _ (jd_in (by simp))) hR.1 (by omega) hc hs hd (kk _ q2)
    · cases h
theorem so_ji {k pc ix r1 r2 r3 : Nat} {v : Value} {st : List Value} {K : List Value → Option PO} {o : PO} {ls : Array Slot} (hk : k < 307) (hx : p.tables.exec = Jvm.exec) (hb : c.code = m_b k) (hml : c.maxLocals = m_L k) (hls : ls.size = m_L k) (hown : s.vm.findClass (m_own k) = some m.cls) (hts : ∀ w ∈ gw, w.before args s = true)
    (hR : 1 ≤ R.frames ∧ 40 ≤ R.locals) (hr : 1000 ≤ r1)
    (hd : decode (m_b k) pc = .ok (.invokespecial ix, 3)) (hop : rowOp k pc (.invokespecial ix) (pc + 3) r1 r2 r3 v = true) (h : jdkF r1 st K = some o)
    (kk : ∀ t, K t = some o → W p l e R s m args below meth c H locs cells slots Q (F0 m (pc + 3) ls (t.map (cz G)))) : W p l e R s m args below meth c H locs cells slots Q (F0 m pc ls (st.map (cz G))) := by
  have hop2 : (bif Nat.ble 1000 r1 then Nat.beq r1 2000 || (Nat.beq r1 1006 && isC r3 (7, m_ci k, ix, 1006, 0)) else chkOwn k r1 r2 r3 ix && (decide (m_hh r1 = []) && (isC (m_p2 r1) (3, r1, 0, 0, 0) && (isInit r1 && (decide (m_ret r1 = none) && (Nat.beq (r2 / 1024) (m_ci r1) && Nat.ble (m_ci r1 + 1) 13)))))) = true := hop
  rw [Nat.ble_eq_true_of_le hr] at hop2
  have hop3 : (Nat.beq r1 2000 || (Nat.beq r1 1006 && isC r3 (7, m_ci k, ix, 1006, 0))) = true := hop2
  rw [Bool.or_eq_true, Bool.and_eq_true] at hop3
  rw [own_ci hk] at hown
  have w : ∀ {t : List Value}, Nat.ble (cats t) 8 = true → ((t.map (cz G)).map fun v => v.category).sum ≤ 8 := fun q => by rw [cats_eq]; exact Nat.le_of_ble_eq_true q
  rcases hop3 with h1 | ⟨h1, h2⟩
  · have := Nat.eq_of_beq_eq_true h1
    subst this
    cases h
  · have := Nat.eq_of_beq_eq_true h1
    subst this
    have hlk := hts _ (gw_C h2 (Nat.le_of_ble_eq_true rfl) rfl)
    rw [jdk_6] at h
    split at h
    · obtain ⟨q1, q2⟩ := bif_c h
      have hw := w q1
      exact W.objInit hx hb hown hlk (hts _ (jd_in (by simp))) (hts _ (jd_in (by simp))) rfl (hls.trans hml.symm) rfl hd hR.1 (by show 2 * 0 + _ + 12 ≤ _; omega) (kk _ q2)
    · cases h
end SN
