/-! String's methods (charAt, length, indexOf), walked -/
def jyLen : MethodName := ⟨"java/lang/String", "length", "()I"⟩
def jyCha : MethodName := ⟨"java/lang/String", "charAt", "(I)C"⟩
def jyInd : MethodName := ⟨"java/lang/String", "indexOf", "(I)I"⟩
def jyIn2 : MethodName := ⟨"java/lang/String", "indexOf", "(II)I"⟩
def jyCod : MethodName := ⟨"java/lang/String", "coder", "()B"⟩
def jyLat : MethodName := ⟨"java/lang/String", "isLatin1", "()Z"⟩
def jyChk : MethodName := ⟨"java/lang/String", "checkIndex", "(II)V"⟩
def jyLch : MethodName := ⟨"java/lang/StringLatin1", "charAt", "([BI)C"⟩
def jyCan : MethodName := ⟨"java/lang/StringLatin1", "canEncode", "(I)Z"⟩
def jyLin : MethodName := ⟨"java/lang/StringLatin1", "indexOf", "([BIII)I"⟩
def jyLic : MethodName := ⟨"java/lang/StringLatin1", "indexOfChar", "([BIII)I"⟩
def jyPre : MethodName := ⟨"jdk/internal/util/Preconditions", "checkIndex", "(IILjava/util/function/BiFunction;)I"⟩
abbrev jcLen : ByteArray := prog_25_method_54_code
abbrev jcCha : ByteArray := prog_25_method_56_code
abbrev jcInd : ByteArray := prog_25_method_79_code
abbrev jcIn2 : ByteArray := prog_25_method_80_code
abbrev jcCod : ByteArray := prog_25_method_152_code
abbrev jcLat : ByteArray := prog_25_method_154_code
abbrev jcChk : ByteArray := prog_25_method_155_code
abbrev jcLch : ByteArray := prog_26_method_2_code
abbrev jcCan : ByteArray := prog_26_method_4_code
abbrev jcLin : ByteArray := prog_26_method_22_code
abbrev jcLic : ByteArray := prog_26_method_23_code
abbrev jcPre : ByteArray := prog_32_method_11_code
def jdL : List Cond := [.code jyLen jcLen 1 (some .int), .code jyCha jcCha 2 (some .char), .code jyInd jcInd 2 (some .int), .code jyIn2 jcIn2 3 (some .int), .code jyCod jcCod 1 (some .byte), .code jyLat jcLat 1 (some .boolean), .code jyChk jcChk 2 none, .code jyLch jcLch 2 (some .char), .code jyCan jcCan 1 (some .boolean), .code jyLin jcLin 4 (some .int), .code jyLic jcLic 6 (some .int), .code jyPre jcPre 3 (some .int),
  .instanceMethod jyLen, .instanceMethod jyCha, .instanceMethod jyInd, .instanceMethod jyIn2, .instanceMethod jyCod, .instanceMethod jyLat, .static jyChk, .static jyLch, .static jyCan, .static jyLin, .static jyLic, .static jyPre,
  .selects "java/lang/String" jyLen jyLen, .selects "java/lang/String" jyCha jyCha, .selects "java/lang/String" jyInd jyInd, .selects "java/lang/String" jyIn2 jyIn2, .selects "java/lang/String" jyCod jyCod, .selects "java/lang/String" jyLat jyLat,
  .initialized "java/lang/String", .initialized "java/lang/StringLatin1", .initialized "jdk/internal/util/Preconditions",
  .fieldLink "java/lang/String" 9 "java/lang/String" "value" "[B", .fieldLink "java/lang/String" 38 "java/lang/String" "COMPACT_STRINGS" "Z", .fieldLink "java/lang/String" 15 "java/lang/String" "coder" "B", .fieldLink "java/lang/String" 1053 "jdk/internal/util/Preconditions" "SIOOBE_FORMATTER" "Ljava/util/function/BiFunction;",
  .methodLink "java/lang/String" 335 jyCod, .methodLink "java/lang/String" 492 jyLat, .methodLink "java/lang/String" 495 jyLch, .methodLink "java/lang/StringLatin1" 9 jyChk, .methodLink "java/lang/String" 1059 jyPre, .methodLink "java/lang/String" 633 jyIn2, .methodLink "java/lang/String" 505 jyLen, .methodLink "java/lang/String" 637 jyLin, .methodLink "java/lang/StringLatin1" 88 jyCan, .methodLink "java/lang/StringLatin1" 92 Lib.Math.max.name, .methodLink "java/lang/StringLatin1" 38 Lib.Math.min.name, .methodLink "java/lang/StringLatin1" 95 jyLic]
theorem jd_2 : jdL.all (fun w => decide (w ∈ lw_tbl) && goodWord w) = true := by decide +kernel
theorem jw_in {w : Cond} (h : w ∈ jdL) : w ∈ gw := by
  have h1 := List.all_eq_true.mp jd_2 w h
  simp only [Bool.and_eq_true, decide_eq_true_eq] at h1
  exact gw_of h1.1 h1.2
section JD
variable {V : Nat → Nat} {G : Nat × Nat × Nat × Nat} {D : va_G} {cT : ClassId × ClassId × ClassId} {L : Nat} {xs : Nat → Int32} {l : Launch}
def jQi (G : Nat × Nat × Nat × Nat) (H0 : Heap) (r : Int32) : Array Value → State → Outcome → State → Prop := va_Qi (S := Unit) (fun r' _ => r' = r) (fun _ t => t.heap = H0) (fun q => G.1 ≤ q)
def jQv (G : Nat × Nat × Nat × Nat) (H0 : Heap) : Array Value → State → Outcome → State → Prop := va_Qv (S := Unit) (fun _ => True) (fun _ t => t.heap = H0) (fun q => G.1 ≤ q)
def jXF (G : Nat × Nat × Nat × Nat) : String → State → State → Prop := vx_X (S := Unit) (fun _ => False) (fun _ _ _ => True) (fun q => G.1 ≤ q)
def jPc (V : Nat → Nat) (G : Nat × Nat × Nat × Nat) (D : va_G) (cT : ClassId × ClassId × ClassId) (L : Nat) (xs : Nat → Int32) (As : List Value) (H0 : Heap) : Array Value → State → Prop := va_Pc As (fun U => Wst V G D cT L xs U ∧ U.heap = H0)
/-- a contract of the JDK's method y -/
def Jc (l : Launch) (V : Nat → Nat) (G : Nat × Nat × Nat × Nat) (D : va_G) (cT : ClassId × ClassId × ClassId) (L : Nat) (xs : Nat → Int32) (y : MethodName) (cc : ByteArray) (n : Nat) (ret : Option FieldType) (d : Nat) (As : List Value) (H0 : Heap) (Qx : Array Value → State → Outcome → State → Prop) : Prop :=
  vx_Met l y (.code y cc n ret :: gw) { frames := d, cells := 0, slots := 0, locals := 30 * d } (jPc V G D cT L xs As H0) Qx (jXF G) 0 0 (fun q => G.1 ≤ q)
theorem jPc_blind {As : List Value} {H0 : Heap} : FrameBlind (jPc V G D cT L xs As H0) := fun a U g mk q => ⟨q.1, Wst_calling q.2.1, q.2.2⟩
theorem Jc_of {y : MethodName} {cc : ByteArray} {n : Nat} {ret : Option FieldType} {d : Nat} {As : List Value} {H0 : Heap} {Qx : Array Value → State → Outcome → State → Prop} (hp : plainName y.cls = true) (hn : (lg_sl As).length ≤ n)
    (body : ∀ (p : Program) (e : Env) (s : State) (m : MethodId) (args : Array Value) (below : List Frame) (meth : Method) (c : Code) (ls : Array Slot), p.tables.exec = Jvm.exec → c.code = cc → c.maxLocals = n → s.vm.findClass y.cls = some m.cls → (∀ w ∈ gw, w.before args s = true) → Wst V G D cT L xs s → s.heap = H0 → meth.locks = false → meth.sig.returnType = ret → lv_has ls n (lv_args 0 As) →
      W p l e { frames := d, cells := 0, slots := 0, locals := 30 * d } s m args below meth c s.heap [] 0 0 (vx_MQ below Qx (jXF G) args s 0 0 (fun q => G.1 ≤ q)) (F0 m 0 ls [])) : Jc l V G D cT L xs y cc n ret d As H0 Qx := by
  refine vx_ofW (cc := cc) (maxL := n) (ret := ret) (ws' := gw) hp rfl ?_
  intro p e s m args below meth c s₁ B hml ht hP
  have hts : ∀ w ∈ gw, w.before args s = true := fun w hw => atoms_spec (ws := .code y cc n ret :: gw) B.pre w (List.mem_cons_of_mem _ hw)
  have ha : args = As.toArray := hP.1
  have e1 := lg_entry_eq m As n
  have e2 := lv_entry As (n := n) hn
  rw [ha, e1, ← ha]
  exact body p e s m args below meth c _ B.exec B.bytes hml (findClass_of_methodNamed B.named) hts hP.2.1 hP.2.2 B.notSynchronized B.returns e2
variable {p : Program} {e : Env} {R : Room} {s : State} {m : MethodId} {args : Array Value} {below : List Frame} {meth : Method} {c : Code} {H : Heap} {locs : List Loc} {cells slots : Nat} {Q : State → Prop}
theorem gi_j {y : MethodName} {cc : ByteArray} {n : Nat} {ret : Option FieldType} {ws : List Cond} (h : Cond.code y cc n ret ∈ gw) (hw : ∀ w ∈ ws, w ∈ gw) : GoodIn gw (ws ++ (.code y cc n ret :: gw)) := by
  intro w h1
  have h2 : w ∈ gw := by
    rcases List.mem_append.mp h1 with h1 | h1
    · exact hw w h1
    · rcases List.mem_cons.mp h1 with h1 | h1
      · rw [h1]; exact h
      · exact h1
  exact ⟨h2, gw_good h2⟩
theorem jc_V {own : String} {cc : ByteArray} {nL ix n nA d pc : Nat} {y : MethodName} {bytes : ByteArray} {ret : Option FieldType} {b : Nat} {As rest : List Value} {ls : Array Slot} {Qx : Array Value → State → Outcome → State → Prop} (S : CallFix p m c cc nL s args gw own) (hM : Jc l V G D cT L xs y bytes n ret d (.ref b :: As) H Qx)
    (h1 : Cond.methodLink own ix y ∈ gw) (h2 : Cond.instanceMethod y ∈ gw) (h3 : Cond.selects y.cls y y ∈ gw) (h4 : Cond.initialized y.cls ∈ gw) (h5 : Cond.code y bytes n ret ∈ gw) (h6 : y.cls ≠ "java/lang/invoke/MethodHandle" ∧ y.cls ≠ "java/lang/invoke/VarHandle" ∧ (parseMethodDescriptor y.desc).map (fun d => d.parameters.length) = some nA) (hA : As.length = nA)
    (hR : d + 1 ≤ R.frames ∧ 8 + (n + 11) + 30 * d ≤ R.locals) (hWs : Wst V G D cT L xs s) (hS : va_S (fun q : Nat => G.1 ≤ q) s.heap H locs) (hrc : ∃ cellB : Cell, H[b]? = some cellB ∧ cellB.vm.isStatics = false ∧ s.vm.findClass y.cls = some cellB.cls)
    (hls : ls.size = nL) (h8 : (rest.map fun v => v.category).sum ≤ 8) (hd : decode cc pc = .ok (.invokevirtual ix, 3)) (hc : cells ≤ R.cells ∧ slots ≤ R.slots) :
    vx_Run p l e R s m args below meth c H locs cells slots 0 0 (F0 m pc ls (As.reverse ++ .ref b :: rest)) rest (Qx (Value.ref b :: As).toArray) (jXF G) (fun q => G.1 ≤ q) := by
  have hG : GoodIn gw (wsV own ix y.cls y (.code y bytes n ret :: gw)) := by
    unfold wsV
    refine gi_j h5 fun w hw => ?_
    simp only [List.mem_cons, List.not_mem_nil, or_false] at hw
    rcases hw with rfl | rfl | rfl | rfl
    · exact h1
    · exact h2
    · exact h3
    · exact h4
  exact vx_runV (C := y.cls) (b := b) (As := As) (Ts := gw) S hM (cwV nA S.2.2.2.2 hG rfl rfl rfl ⟨rfl, h6.1, h6.2.1, h6.2.2⟩ ⟨hR.1, hR.2⟩) ⟨jPc_blind, hrc, fun U hU hWm => ⟨rfl, Wst_move hWs hS hU hWm, hU⟩⟩ rfl hA hls rfl (lv_room h8) hd hc
theorem jc_S {own : String} {cc : ByteArray} {nL ix n nA d pc : Nat} {y : MethodName} {bytes : ByteArray} {ret : Option FieldType} {As rest : List Value} {ls : Array Slot} {Qx : Array Value → State → Outcome → State → Prop} (S : CallFix p m c cc nL s args gw own) (hM : Jc l V G D cT L xs y bytes n ret d As H Qx)
    (h1 : Cond.methodLink own ix y ∈ gw) (h2 : Cond.static y ∈ gw) (h4 : Cond.initialized y.cls ∈ gw) (h5 : Cond.code y bytes n ret ∈ gw) (h6 : y.cls ≠ "java/lang/invoke/MethodHandle" ∧ y.cls ≠ "java/lang/invoke/VarHandle" ∧ (parseMethodDescriptor y.desc).map (fun d => d.parameters.length) = some nA) (hA : As.length = nA)
    (hR : d + 1 ≤ R.frames ∧ 8 + (n + 11) + 30 * d ≤ R.locals) (hWs : Wst V G D cT L xs s) (hS : va_S (fun q : Nat => G.1 ≤ q) s.heap H locs)
    (hls : ls.size = nL) (h8 : (rest.map fun v => v.category).sum ≤ 8) (hd : decode cc pc = .ok (.invokestatic ix, 3)) (hc : cells ≤ R.cells ∧ slots ≤ R.slots) :
    vx_Run p l e R s m args below meth c H locs cells slots 0 0 (F0 m pc ls (As.reverse ++ rest)) rest (Qx As.toArray) (jXF G) (fun q => G.1 ≤ q) := by
  have hG : GoodIn gw (va_wsS own ix y (.code y bytes n ret :: gw)) := by
    unfold va_wsS
    refine gi_j h5 fun w hw => ?_
    simp only [List.mem_cons, List.not_mem_nil, or_false] at hw
    rcases hw with rfl | rfl | rfl
    · exact h1
    · exact h2
    · exact h4
  exact vx_runS (As := As) (Ts := gw) S hM (va_cwS nA S.2.2.2.2 hG rfl rfl rfl ⟨h6.1, h6.2.1, h6.2.2⟩ ⟨hR.1, hR.2⟩) ⟨jPc_blind, fun U hU hWm => ⟨rfl, Wst_move hWs hS hU hWm, hU⟩⟩ rfl hA hls rfl (lv_room h8) hd hc
/-- behind such a call -/
theorem jk_i {pc : Nat} {ls : Array Slot} {st0 rest : List Value} {r : Int32} {a : Array Value} (hr : vx_Run p l e R s m args below meth c H locs cells slots 0 0 (F0 m pc ls st0) rest (jQi G H r a) (jXF G) (fun q => G.1 ≤ q)) (hS : va_S (fun q : Nat => G.1 ≤ q) s.heap H locs)
    (kk : ∀ locs1, va_S (fun q : Nat => G.1 ≤ q) s.heap H locs1 → W p l e R s m args below meth c H locs1 cells slots Q (F0 m (pc + 3) ls (.int r :: rest))) : W p l e R s m args below meth c H locs cells slots Q (F0 m pc ls st0) := by
  refine vx_calli (a := a) hr hS (fun _ _ q => q) (fun _ q => q) (fun _ _ q => q) (fun E ce q9 u t H1 locs1 _ _ hF => hF.elim) (fun r' u T H1 locs1 hT _ hp hB _ _ hS1 => ?_)
  have hp : r' = r := hp
  have hB : T.heap = H := hB
  subst hp
  rw [hT] at hB
  subst hB
  exact kk locs1 hS1
theorem jk_v {pc : Nat} {ls : Array Slot} {st0 rest : List Value} {a : Array Value} (hr : vx_Run p l e R s m args below meth c H locs cells slots 0 0 (F0 m pc ls st0) rest (jQv G H a) (jXF G) (fun q => G.1 ≤ q)) (hS : va_S (fun q : Nat => G.1 ≤ q) s.heap H locs)
    (kk : ∀ locs1, va_S (fun q : Nat => G.1 ≤ q) s.heap H locs1 → W p l e R s m args below meth c H locs1 cells slots Q (F0 m (pc + 3) ls rest)) : W p l e R s m args below meth c H locs cells slots Q (F0 m pc ls st0) := by
  refine vx_callv (a := a) hr hS (fun _ _ q => q) (fun _ q => q) (fun _ _ q => q) (fun E ce q9 u t H1 locs1 _ _ hF => hF.elim) (fun u T H1 locs1 hT _ hp hB _ _ hS1 => ?_)
  have hB : T.heap = H := hB
  rw [hT] at hB
  subst hB
  exact kk locs1 hS1
/-- an end -/
theorem jr_i {cc : ByteArray} {pc : Nat} {ls : Array Slot} {ty : FieldType} {v : Int32} (hx : p.tables.exec = Jvm.exec) (hb : c.code = cc) (hret : meth.sig.returnType = some ty) (hn : narrow ty (.int v) = .int v) (hlocks : meth.locks = false) (hS : va_S (fun q : Nat => G.1 ≤ q) s.heap H locs) (hd : decode cc pc = .ok (.ireturn, 1)) :
    W p l e R s m args below meth c H locs cells slots (vx_MQ below (jQi G H v) (jXF G) args s cells slots (fun q => G.1 ≤ q)) (F0 m pc ls [.int v]) :=
  vx_ret (W.zret hx hb hret hn (fun t ht _ => ⟨⟨v, (), rfl, rfl, ht⟩, hS.F ht⟩) hS.2.2 hd hlocks)
theorem jr_v {cc : ByteArray} {pc : Nat} {ls : Array Slot} (hx : p.tables.exec = Jvm.exec) (hb : c.code = cc) (hret : meth.sig.returnType = none) (hlocks : meth.locks = false) (hS : va_S (fun q : Nat => G.1 ≤ q) s.heap H locs) (hd : decode cc pc = .ok (.return_, 1)) :
    W p l e R s m args below meth c H locs cells slots (vx_MQ below (jQv G H) (jXF G) args s cells slots (fun q => G.1 ≤ q)) (F0 m pc ls []) :=
  vx_ret (W.vret hx hb hret (fun t ht _ => ⟨⟨(), rfl, trivial, ht⟩, hS.F ht⟩) hS.2.2 hd hlocks)
def sA (G : Nat × Nat × Nat × Nat) (i : Nat) : Nat := if i = 0 then G.2.2.1 else G.2.2.2
theorem va_S0 {A : Nat → Prop} {H : Heap} : va_S A H H [] := ⟨Nat.le_refl _, fun _ _ _ => rfl, fun _ h => by cases h⟩
theorem j_coder {i d : Nat} {H0 : Heap} (hi : i < 2) : Jc l V G D cT L xs jyCod jcCod 1 (some .byte) d [.ref (sA G i)] H0 (jQi G H0 0) := by
  refine Jc_of (by decide +kernel) (Nat.le_refl _) ?_
  rintro p e s m args below meth c ls hx hb hml hown hts hWs rfl hlocks hret hl
  have hE := hWs.2.2.2.2.2.2.1
  have hZ := hWs.2.2.2.2.2.2.2.2.2.1
  refine va_gets hx hb (index := 38) hZ va_S0 hown (hts _ (jw_in (by simp [jdL]))) (fun _ h => h) (by decide +kernel) ?_
  refine lv_if_eq hx hb (tgt := 13) (by decide +kernel) (by decide) (fun q => absurd q (by decide)) (fun _ => ?_)
  refine lv_aload_n hx hb (by decide +kernel) rfl (lv_at hl 0 rfl) ?_
  refine vk_getf hx hb (index := 15) (hE.1 i hi).2.1 va_S0 hown (hts _ (jw_in (by simp [jdL]))) (fun _ h => h) (by decide +kernel) ?_
  refine lv_goto hx hb (tgt := 14) (by decide +kernel) (by decide) ?_
  exact jr_i hx hb hret rfl hlocks va_S0 (by decide +kernel)
theorem j_latin {i d : Nat} {H0 : Heap} (hi : i < 2) : Jc l V G D cT L xs jyLat jcLat 1 (some .boolean) d [.ref (sA G i)] H0 (jQi G H0 1) := by
  refine Jc_of (by decide +kernel) (Nat.le_refl _) ?_
  rintro p e s m args below meth c ls hx hb hml hown hts hWs rfl hlocks hret hl
  have hE := hWs.2.2.2.2.2.2.1
  have hZ := hWs.2.2.2.2.2.2.2.2.2.1
  refine va_gets hx hb (index := 38) hZ va_S0 hown (hts _ (jw_in (by simp [jdL]))) (fun _ h => h) (by decide +kernel) ?_
  refine lv_if_eq hx hb (tgt := 17) (by decide +kernel) (by decide) (fun q => absurd q (by decide)) (fun _ => ?_)
  refine lv_aload_n hx hb (by decide +kernel) rfl (lv_at hl 0 rfl) ?_
  refine vk_getf hx hb (index := 15) (hE.1 i hi).2.1 va_S0 hown (hts _ (jw_in (by simp [jdL]))) (fun _ h => h) (by decide +kernel) ?_
  refine lv_if_ne hx hb (tgt := 17) (by decide +kernel) (by decide) (fun q => absurd rfl q) (fun _ => ?_)
  refine lv_iconst hx hb (by decide +kernel) rfl ?_
  refine lv_goto hx hb (tgt := 18) (by decide +kernel) (by decide) ?_
  exact jr_i hx hb hret rfl hlocks va_S0 (by decide +kernel)
theorem j_len {i d : Nat} {H0 : Heap} (hi : i < 2) : Jc l V G D cT L xs jyLen jcLen 1 (some .int) (d + 1) [.ref (sA G i)] H0 (jQi G H0 (nI (slen.getD i 0))) := by
  refine Jc_of (by decide +kernel) (Nat.le_refl _) ?_
  rintro p e s m args below meth c ls hx hb hml hown hts hWs rfl hlocks hret hl
  have hE := hWs.2.2.2.2.2.2.1
  have S : CallFix p m c jcLen 1 s args gw "java/lang/String" := ⟨hx, hb, hml, hown, hts⟩
  refine lv_aload_n hx hb (by decide +kernel) rfl (lv_at hl 0 rfl) ?_
  refine vk_getf hx hb (index := 9) (hE.1 i hi).2.2.1 va_S0 hown (hts _ (jw_in (by simp [jdL]))) (fun _ h => h) (by decide +kernel) ?_
  refine va_tlen hx hb (hE.1 i hi).2.2.2 va_S0 rfl (by decide +kernel) ?_
  refine lv_aload_n hx hb (by decide +kernel) rfl (lv_at hl 0 rfl) ?_
  refine jk_i (jc_V (nA := 0) (As := []) S (j_coder (d := d) hi) (jw_in (by simp [jdL])) (jw_in (by simp [jdL])) (jw_in (by simp [jdL, jyCod])) (jw_in (by simp [jdL, jyCod])) (jw_in (by simp [jdL])) ⟨by decide +kernel, by decide +kernel, by decide +kernel⟩ rfl ⟨Nat.le_refl _, by show _ ≤ 30 * (d + 1); omega⟩ hWs va_S0 (vk_recv hE hi va_S0) hl.1 (by decide) (by decide +kernel) ⟨Nat.le_refl _, Nat.le_refl _⟩) va_S0 fun locs1 hS1 => ?_
  refine lv_ishr hx hb (by decide +kernel) ?_
  have e0 : Int32.ofNat (slen.getD i 0) >>> ((0 : Int32) &&& 31) = nI (slen.getD i 0) := by
    have : i = 0 ∨ i = 1 := by omega
    rcases this with rfl | rfl <;> decide +kernel
  rw [e0]
  exact jr_i hx hb hret rfl hlocks hS1 (by decide +kernel)
end JD
