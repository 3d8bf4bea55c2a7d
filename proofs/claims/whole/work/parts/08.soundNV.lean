/-! String's methods (charAt, length, indexOf), walked -/
def jyLen : MethodName := ⟨"java/lang/String", "length", "()I"⟩
def jyCha : MethodName := ⟨"java/lang/String", "charAt", "(I)C"⟩
def jyInd : MethodName := ⟨"java/lang/String", "indexOf", "(I)I"⟩
def jyIn2 : MethodName := ⟨"java/lang/String", "indexOf", "(II)I"⟩
def jyCod : MethodName := ⟨"java/lang/String", "coder", "()B"⟩
def jyLat : MethodName := ⟨"java/lang/String", "isLatin1", "()Z"⟩
def jyChk : MethodName := ⟨"java/lang/String", "checkIndex", "(II)V"⟩
def jyLch : MethodName := ⟨"java/lang/StringLatin1", "charAt", "([BI)C"⟩
def jyCan : MethodName := ⟨"java/lang/StringLatin1", "canEncode", "(I)Z"⟩
def jyLin : MethodName := ⟨"java/lang/StringLatin1", "indexOf", "([BIII)I"⟩
def jyLic : MethodName := ⟨"java/lang/StringLatin1", "indexOfChar", "([BIII)I"⟩
def jyPre : MethodName := ⟨"jdk/internal/util/Preconditions", "checkIndex", "(IILjava/util/function/BiFunction;)I"⟩
abbrev jcLen : ByteArray := prog_25_method_54_code
abbrev jcCha : ByteArray := prog_25_method_56_code
abbrev jcInd : ByteArray := prog_25_method_79_code
abbrev jcIn2 : ByteArray := prog_25_method_80_code
abbrev jcCod : ByteArray := prog_25_method_152_code
abbrev jcLat : ByteArray := prog_25_method_154_code
abbrev jcChk : ByteArray := prog_25_method_155_code
abbrev jcLch : ByteArray := prog_26_method_2_code
abbrev jcCan : ByteArray := prog_26_method_4_code
abbrev jcLin : ByteArray := prog_26_method_22_code
abbrev jcLic : ByteArray := prog_26_method_23_code
abbrev jcPre : ByteArray := prog_32_method_11_code
def jdL : List Cond := [.code jyLen jcLen 1 (some .int), .code jyCha jcCha 2 (some .char), .code jyInd jcInd 2 (some .int), .code jyIn2 jcIn2 3 (some .int), .code jyCod jcCod 1 (some .byte), .code jyLat jcLat 1 (some .boolean), .code jyChk jcChk 2 none, .code jyLch jcLch 2 (some .char), .code jyCan jcCan 1 (some .boolean), .code jyLin jcLin 4 (some .int), .code jyLic jcLic 6 (some .int), .code jyPre jcPre 3 (some .int),
  .instanceMethod jyLen, .instanceMethod jyCha, .instanceMethod jyInd, .instanceMethod jyIn2, .instanceMethod jyCod, .instanceMethod jyLat, .static jyChk, .static jyLch, .static jyCan, .static jyLin, .static jyLic, .static jyPre,
  .selects "java/lang/String" jyLen jyLen, .selects "java/lang/String" jyCha jyCha, .selects "java/lang/String" jyInd jyInd, .selects "java/lang/String" jyIn2 jyIn2, .selects "java/lang/String" jyCod jyCod, .selects "java/lang/String" jyLat jyLat,
  .initialized "java/lang/String", .initialized "java/lang/StringLatin1", .initialized "jdk/internal/util/Preconditions",
  .fieldLink "java/lang/String" 9 "java/lang/String" "value" "[B", .fieldLink "java/lang/String" 38 "java/lang/String" "COMPACT_STRINGS" "Z", .fieldLink "java/lang/String" 15 "java/lang/String" "coder" "B", .fieldLink "java/lang/String" 1053 "jdk/internal/util/Preconditions" "SIOOBE_FORMATTER" "Ljava/util/function/BiFunction;",
  .methodLink "java/lang/String" 335 jyCod, .methodLink "java/lang/String" 492 jyLat, .methodLink "java/lang/String" 495 jyLch, .methodLink "java/lang/StringLatin1" 9 jyChk, .methodLink "java/lang/String" 1059 jyPre, .methodLink "java/lang/String" 633 jyIn2, .methodLink "java/lang/String" 505 jyLen, .methodLink "java/lang/String" 637 jyLin, .methodLink "java/lang/StringLatin1" 88 jyCan, .methodLink "java/lang/StringLatin1" 92 Lib.Math.max.name, .methodLink "java/lang/StringLatin1" 38 Lib.Math.min.name, .methodLink "java/lang/StringLatin1" 95 jyLic]
theorem jd_2 : jdL.all (fun w => decide (w ∈ lw_tbl) && goodWord w) = true := by decide +kernel
theorem jw_in {w : Cond} (h : w ∈ jdL) : w ∈ gw := by
  have h1 := List.all_eq_true.mp jd_2 w h
  simp only [Bool.and_eq_true, decide_eq_true_eq] at h1
  exact gw_of h1.1 h1.2
section JD
variable {V : Nat → Nat} {G : Nat × Nat × Nat × Nat} {D : va_G} {cT : ClassId × ClassId × ClassId} {L : Nat} {xs : Nat → Int32} {l : Launch}
def jQi (G : Nat × Nat × Nat × Nat) (H0 : Heap) (r : Int32) : Array Value → State → Outcome → State → Prop := va_Qi (S := Unit) (fun r' _ => r' = r) (fun _ t => t.heap = H0) (fun q => G.1 ≤ q)
def jQv (G : Nat × Nat × Nat × Nat) (H0 : Heap) : Array Value → State → Outcome → State → Prop := va_Qv (S := Unit) (fun _ => True) (fun _ t => t.heap = H0) (fun q => G.1 ≤ q)
def jXF (G : Nat × Nat × Nat × Nat) : String → State → State → Prop := vx_X (S := Unit) (fun _ => False) (fun _ _ _ => True) (fun q => G.1 ≤ q)
def jPc (V : Nat → Nat) (G : Nat × Nat × Nat × Nat) (D : va_G) (cT : ClassId × ClassId × ClassId) (L : Nat) (xs : Nat → Int32) (As : List Value) (H0 : Heap) : Array Value → State → Prop := va_Pc As (fun U => Wst V G D cT L xs U ∧ U.heap = H0)
/-- a contract of the JDK's method y -/
def Jc (l : Launch) (V : Nat → Nat) (G : Nat × Nat × Nat × Nat) (D : va_G) (cT : ClassId × ClassId × ClassId) (L : Nat) (xs : Nat → Int32) (y : MethodName) (cc : ByteArray) (n : Nat) (ret : Option FieldType) (d : Nat) (As : List Value) (H0 : Heap) (Qx : Array Value → State → Outcome → State → Prop) : Prop :=
  vx_Met l y (.code y cc n ret :: gw) { frames := d, cells := 0, slots := 0, locals := 30 * d } (jPc V G D cT L xs As H0) Qx (jXF G) 0 0 (fun q => G.1 ≤ q)
theorem jPc_blind {As : List Value} {H0 : Heap} : FrameBlind (jPc V G D cT L xs As H0) := fun a U g mk q => ⟨q.1, Wst_calling q.2.1, q.2.2⟩
theorem Jc_of {y : MethodName} {cc : ByteArray} {n : Nat} {ret : Option FieldType} {d : Nat} {As : List Value} {H0 : Heap} {Qx : Array Value → State → Outcome → State → Prop} (hp : plainName y.cls = true) (hn : (lg_sl As).length ≤ n)
    (body : ∀ (p : Program) (e : Env) (s : State) (m : MethodId) (args : Array Value) (below : List Frame) (meth : Method) (c : Code) (ls : Array Slot), p.tables.exec = Jvm.exec → c.code = cc → c.maxLocals = n → s.vm.findClass y.cls = some m.cls → (∀ w ∈ gw, w.before args s = true) → Wst V G D cT L xs s → s.heap = H0 → meth.locks = false → meth.sig.returnType = ret → lv_has ls n (lv_args 0 As) →
      W p l e { frames := d, cells := 0, slots := 0, locals := 30 * d } s m args below meth c s.heap [] 0 0 (vx_MQ below Qx (jXF G) args s 0 0 (fun q => G.1 ≤ q)) (F0 m 0 ls [])) : Jc l V G D cT L xs y cc n ret d As H0 Qx := by
  refine vx_ofW (cc := cc) (maxL := n) (ret := ret) (ws' := gw) hp rfl ?_
  intro p e s m args below meth c s₁ B hml ht hP
  have hts : ∀ w ∈ gw, w.before args s = true := fun w hw => atoms_spec (ws := .code y cc n ret :: gw) B.pre w (List.mem_cons_of_mem _ hw)
  have ha : args = As.toArray := hP.1
  have e1 := lg_entry_eq m As n
  have e2 := lv_entry As (n := n) hn
  rw [ha, e1, ← ha]
  exact body p e s m args below meth c _ B.exec B.bytes hml (findClass_of_methodNamed B.named) hts hP.2.1 hP.2.2 B.notSynchronized B.returns e2
variable {p : Program} {e : Env} {R : Room} {s : State} {m : MethodId} {args : Array Value} {below : List Frame} {meth : Method} {c : Code} {H : Heap} {locs : List Loc} {cells slots : Nat} {Q : State → Prop}
theorem gi_j {y : MethodName} {cc : ByteArray} {n : Nat} {ret : Option FieldType} {ws : List Cond} (h : Cond.code y cc n ret ∈ gw) (hw : ∀ w ∈ ws, w ∈ gw) : GoodIn gw (ws ++ (.code y cc n ret :: gw)) := by
  intro w h1
  have h2 : w ∈ gw := by
    rcases List.mem_append.mp h1 with h1 | h1
    · exact hw w h1
    · rcases List.mem_cons.mp h1 with h1 | h1
      · rw [h1]; exact h
      · exact h1
  exact ⟨h2, gw_good h2⟩
theorem jc_V {own : String} {cc : ByteArray} {nL ix n nA d pc : Nat} {y : MethodName} {bytes : ByteArray} {ret : Option FieldType} {b : Nat} {As rest : List Value} {ls : Array Slot} {Qx : Array Value → State → Outcome → State → Prop} (S : CallFix p m c cc nL s args gw own) (hM : Jc l V G D cT L xs y bytes n ret d (.ref b :: As) H Qx)
    (h1 : Cond.methodLink own ix y ∈ gw) (h2 : Cond.instanceMethod y ∈ gw) (h3 : Cond.selects y.cls y y ∈ gw) (h4 : Cond.initialized y.cls ∈ gw) (h5 : Cond.code y bytes n ret ∈ gw) (h6 : y.cls ≠ "java/lang/invoke/MethodHandle" ∧ y.cls ≠ "java/lang/invoke/VarHandle" ∧ (parseMethodDescriptor y.desc).map (fun d => d.parameters.length) = some nA) (hA : As.length = nA)
    (hR : d + 1 ≤ R.frames ∧ 8 + (n + 11) + 30 * d ≤ R.locals) (hWs : Wst V G D cT L xs s) (hS : va_S (fun q : Nat => G.1 ≤ q) s.heap H locs) (hrc : ∃ cellB : Cell, H[b]? = some cellB ∧ cellB.vm.isStatics = false ∧ s.vm.findClass y.cls = some cellB.cls)
    (hls : ls.size = nL) (h8 : (rest.map fun v => v.category).sum ≤ 8) (hd : decode cc pc = .ok (.invokevirtual ix, 3)) (hc : cells ≤ R.cells ∧ slots ≤ R.slots) :
    vx_Run p l e R s m args below meth c H locs cells slots 0 0 (F0 m pc ls (As.reverse ++ .ref b :: rest)) rest (Qx (Value.ref b :: As).toArray) (jXF G) (fun q => G.1 ≤ q) := by
  have hG : GoodIn gw (wsV own ix y.cls y (.code y bytes n ret :: gw)) := by
    unfold wsV
    refine gi_j h5 fun w hw => ?_
    simp only [List.mem_cons, List.not_mem_nil, or_false] at hw
    rcases hw with rfl | rfl | rfl | rfl
    · exact h1
    · exact h2
    · exact h3
    · exact h4
  exact vx_runV (C := y.cls) (b := b) (As := As) (Ts := gw) S hM (cwV nA S.2.2.2.2 hG rfl rfl rfl ⟨rfl, h6.1, h6.2.1, h6.2.2⟩ ⟨hR.1, hR.2⟩) ⟨jPc_blind, hrc, fun U hU hWm => ⟨rfl, Wst_move hWs hS hU hWm, hU⟩⟩ rfl hA hls rfl (lv_room h8) hd hc
theorem jc_S {own : String} {cc : ByteArray} {nL ix n nA d pc : Nat} {y : MethodName} {bytes : ByteArray} {ret : Option FieldType} {As rest : List Value} {ls : Array Slot} {Qx : Array Value → State → Outcome → State → Prop} (S : CallFix p m c cc nL s args gw own) (hM : Jc l V G D cT L xs y bytes n ret d As H Qx)
    (h1 : Cond.methodLink own ix y ∈ gw) (h2 : Cond.static y ∈ gw) (h4 : Cond.initialized y.cls ∈ gw) (h5 : Cond.code y bytes n ret ∈ gw) (h6 : y.cls ≠ "java/lang/invoke/MethodHandle" ∧ y.cls ≠ "java/lang/invoke/VarHandle" ∧ (parseMethodDescriptor y.desc).map (fun d => d.parameters.length) = some nA) (hA : As.length = nA)
    (hR : d + 1 ≤ R.frames ∧ 8 + (n + 11) + 30 * d ≤ R.locals) (hWs : Wst V G D cT L xs s) (hS : va_S (fun q : Nat => G.1 ≤ q) s.heap H locs)
    (hls : ls.size = nL) (h8 : (rest.map fun v => v.category).sum ≤ 8) (hd : decode cc pc = .ok (.invokestatic ix, 3)) (hc : cells ≤ R.cells ∧ slots ≤ R.slots) :
    vx_Run p l e R s m args below meth c H locs cells slots 0 0 (F0 m pc ls (As.reverse ++ rest)) rest (Qx As.toArray) (jXF G) (fun q => G.1 ≤ q) := by
  have hG : GoodIn gw (va_wsS own ix y (.code y bytes n ret :: gw)) := by
    unfold va_wsS
    refine gi_j h5 fun w hw => ?_
    simp only [List.mem_cons, List.not_mem_nil, or_false] at hw
    rcases hw with rfl | rfl | rfl
    · exact h1
    · exact h2
    · exact h4
  exact vx_runS (As := As) (Ts := gw) S hM (va_cwS nA S.2.2.2.2 hG rfl rfl rfl ⟨h6.1, h6.2.1, h6.2.2⟩ ⟨hR.1, hR.2⟩) ⟨jPc_blind, fun U hU hWm => ⟨rfl, Wst_move hWs hS hU hWm, hU⟩⟩ rfl hA hls rfl (lv_room h8) hd hc
/-- behind such a call -/
theorem jk_i {pc : Nat} {ls : Array Slot} {st0 rest : List Value} {r : Int32} {a : Array Value} (hr : vx_Run p l e R s m args below meth c H locs cells slots 0 0 (F0 m pc ls st0) rest (jQi G H r a) (jXF G) (fun q => G.1 ≤ q)) (hS : va_S (fun q : Nat => G.1 ≤ q) s.heap H locs)
    (kk : ∀ locs1, va_S (fun q : Nat => G.1 ≤ q) s.heap H locs1 → W p l e R s m args below meth c H locs1 cells slots Q (F0 m (pc + 3) ls (.int r :: rest))) : W p l e R s m args below meth c H locs cells slots Q (F0 m pc ls st0) := by
  refine vx_calli (a := a) hr hS (fun _ _ q => q) (fun _ q => q) (fun _ _ q => q) (fun E ce q9 u t H1 locs1 _ _ hF => hF.elim) (fun r' u T H1 locs1 hT _ hp hB _ _ hS1 => ?_)
  have hp : r' = r := hp
  have hB : T.heap = H := hB
  subst hp
  rw [hT] at hB
  subst hB
  exact kk locs1 hS1
theorem jk_v {pc : Nat} {ls : Array Slot} {st0 rest : List Value} {a : Array Value} (hr : vx_Run p l e R s m args below meth c H locs cells slots 0 0 (F0 m pc ls st0) rest (jQv G H a) (jXF G) (fun q => G.1 ≤ q)) (hS : va_S (fun q : Nat => G.1 ≤ q) s.heap H locs)
    (kk : ∀ locs1, va_S (fun q : Nat => G.1 ≤ q) s.heap H locs1 → W p l e R s m args below meth c H locs1 cells slots Q (F0 m (pc + 3) ls rest)) : W p l e R s m args below meth c H locs cells slots Q (F0 m pc ls st0) := by
  refine vx_callv (a := a) hr hS (fun _ _ q => q) (fun _ q => q) (fun _ _ q => q) (fun E ce q9 u t H1 locs1 _ _ hF => hF.elim) (fun u T H1 locs1 hT _ hp hB _ _ hS1 => ?_)
  have hB : T.heap = H := hB
  rw [hT] at hB
  subst hB
  exact kk locs1 hS1
/-- an end -/
theorem jr_i {cc : ByteArray} {pc : Nat} {ls : Array Slot} {ty : FieldType} {v : Int32} (hx : p.tables.exec = Jvm.exec) (hb : c.code = cc) (hret : meth.sig.returnType = some ty) (hn : narrow ty (.int v) = .int v) (hlocks : meth.locks = false) (hS : va_S (fun q : Nat => G.1 ≤ q) s.heap H locs) (hd : decode cc pc = .ok (.ireturn, 1)) :
    W p l e R s m args below meth c H locs cells slots (vx_MQ below (jQi G H v) (jXF G) args s cells slots (fun q => G.1 ≤ q)) (F0 m pc ls [.int v]) :=
  vx_ret (W.zret hx hb hret hn (fun t ht _ => ⟨⟨v, (), rfl, rfl, ht⟩, hS.F ht⟩) hS.2.2 hd hlocks)
theorem jr_v {cc : ByteArray} {pc : Nat} {ls : Array Slot} (hx : p.tables.exec = Jvm.exec) (hb : c.code = cc) (hret : meth.sig.returnType = none) (hlocks : meth.locks = false) (hS : va_S (fun q : Nat => G.1 ≤ q) s.heap H locs) (hd : decode cc pc = .ok (.return_, 1)) :
    W p l e R s m args below meth c H locs cells slots (vx_MQ below (jQv G H) (jXF G) args s cells slots (fun q => G.1 ≤ q)) (F0 m pc ls []) :=
  vx_ret (W.vret hx hb hret (fun t ht _ => ⟨⟨(), rfl, trivial, ht⟩, hS.F ht⟩) hS.2.2 hd hlocks)
def sA (G : Nat × Nat × Nat × Nat) (i : Nat) : Nat := if i = 0 then G.2.2.1 else G.2.2.2
theorem va_S0 {A : Nat → Prop} {H : Heap} : va_S A H H [] := ⟨Nat.le_refl _, fun _ _ _ => rfl, fun _ h => by cases h⟩
theorem j_coder {i d : Nat} {H0 : Heap} (hi : i < 2) : Jc l V G D cT L xs jyCod jcCod 1 (some .byte) (d) [.ref (sA G i)] H0 (jQi G H0 0) := by
  refine Jc_of (by decide +kernel) (Nat.le_refl _) ?_
  rintro p e s m args below meth c ls hx hb hml hown hts hWs rfl hlocks hret hl
  have hown : s.vm.findClass "java/lang/String" = some m.cls := hown
  have hE := hWs.2.2.2.2.2.2.1
  have hZ := hWs.2.2.2.2.2.2.2.2.2.1
  have hZ2 := hWs.2.2.2.2.2.2.2.2.2.2.1
  have S : CallFix p m c jcCod 1 s args gw "java/lang/String" := ⟨hx, hb, hml, hown, hts⟩
  refine va_gets hx hb (C := "java/lang/String") (n := "COMPACT_STRINGS") (d := "Z") (ref := "java/lang/String") (own := "java/lang/String") (index := 38) hZ va_S0 hown (hts _ (jw_in (by simp [jdL]))) (fun _ h => h) (by decide +kernel) ?_
  refine lv_if_eq (off := 10) (tgt := 13) hx hb (by decide +kernel) (by decide) (fun q => absurd q (by decide)) (fun _ => ?_)
  refine lv_aload_n (k := 0) hx hb (by decide +kernel) rfl (lv_at hl 0 rfl) ?_
  refine vk_getf hx hb (o := "java/lang/String") (n := "coder") (d := "B") (ref := "java/lang/String") (own := "java/lang/String") (index := 15) (hE.1 i hi).2.1 va_S0 hown (hts _ (jw_in (by simp [jdL]))) (fun _ h => h) (by decide +kernel) ?_
  refine lv_goto (off := 4) (tgt := 14) hx hb (by decide +kernel) (by decide) ?_
  exact jr_i hx hb hret rfl hlocks va_S0 (by decide +kernel)
theorem j_latin {i d : Nat} {H0 : Heap} (hi : i < 2) : Jc l V G D cT L xs jyLat jcLat 1 (some .boolean) (d) [.ref (sA G i)] H0 (jQi G H0 1) := by
  refine Jc_of (by decide +kernel) (Nat.le_refl _) ?_
  rintro p e s m args below meth c ls hx hb hml hown hts hWs rfl hlocks hret hl
  have hown : s.vm.findClass "java/lang/String" = some m.cls := hown
  have hE := hWs.2.2.2.2.2.2.1
  have hZ := hWs.2.2.2.2.2.2.2.2.2.1
  have hZ2 := hWs.2.2.2.2.2.2.2.2.2.2.1
  have S : CallFix p m c jcLat 1 s args gw "java/lang/String" := ⟨hx, hb, hml, hown, hts⟩
  refine va_gets hx hb (C := "java/lang/String") (n := "COMPACT_STRINGS") (d := "Z") (ref := "java/lang/String") (own := "java/lang/String") (index := 38) hZ va_S0 hown (hts _ (jw_in (by simp [jdL]))) (fun _ h => h) (by decide +kernel) ?_
  refine lv_if_eq (off := 14) (tgt := 17) hx hb (by decide +kernel) (by decide) (fun q => absurd q (by decide)) (fun _ => ?_)
  refine lv_aload_n (k := 0) hx hb (by decide +kernel) rfl (lv_at hl 0 rfl) ?_
  refine vk_getf hx hb (o := "java/lang/String") (n := "coder") (d := "B") (ref := "java/lang/String") (own := "java/lang/String") (index := 15) (hE.1 i hi).2.1 va_S0 hown (hts _ (jw_in (by simp [jdL]))) (fun _ h => h) (by decide +kernel) ?_
  refine lv_if_ne (off := 7) (tgt := 17) hx hb (by decide +kernel) (by decide) (fun q => absurd rfl q) (fun _ => ?_)
  refine lv_iconst (n := 1) hx hb (by decide +kernel) rfl ?_
  refine lv_goto (off := 4) (tgt := 18) hx hb (by decide +kernel) (by decide) ?_
  exact jr_i hx hb hret rfl hlocks va_S0 (by decide +kernel)
theorem j_len {i d : Nat} {H0 : Heap} (hi : i < 2) : Jc l V G D cT L xs jyLen jcLen 1 (some .int) (d + 1) [.ref (sA G i)] H0 (jQi G H0 (nI (slen.getD i 0))) := by
  refine Jc_of (by decide +kernel) (Nat.le_refl _) ?_
  rintro p e s m args below meth c ls hx hb hml hown hts hWs rfl hlocks hret hl
  have hown : s.vm.findClass "java/lang/String" = some m.cls := hown
  have hE := hWs.2.2.2.2.2.2.1
  have hZ := hWs.2.2.2.2.2.2.2.2.2.1
  have hZ2 := hWs.2.2.2.2.2.2.2.2.2.2.1
  have S : CallFix p m c jcLen 1 s args gw "java/lang/String" := ⟨hx, hb, hml, hown, hts⟩
  refine lv_aload_n (k := 0) hx hb (by decide +kernel) rfl (lv_at hl 0 rfl) ?_
  refine vk_getf hx hb (o := "java/lang/String") (n := "value") (d := "[B") (ref := "java/lang/String") (own := "java/lang/String") (index := 9) (hE.1 i hi).2.2.1 va_S0 hown (hts _ (jw_in (by simp [jdL]))) (fun _ h => h) (by decide +kernel) ?_
  refine va_tlen hx hb (hE.1 i hi).2.2.2 va_S0 rfl (by decide +kernel) ?_
  refine lv_aload_n (k := 0) hx hb (by decide +kernel) rfl (lv_at hl 0 rfl) ?_
  refine jk_i (jc_V (ix := 335) (nA := 0) (As := []) S (j_coder (d := d) hi) (jw_in (by simp [jdL])) (jw_in (by simp [jdL])) (jw_in (by simp [jdL, jyCod])) (jw_in (by simp [jdL, jyCod])) (jw_in (by simp [jdL])) ⟨by decide +kernel, by decide +kernel, by decide +kernel⟩ rfl ⟨by dsimp only; omega, by dsimp only; omega⟩ hWs va_S0 (vk_recv hE hi va_S0) hl.1 (Nat.le_of_ble_eq_true rfl) (by decide +kernel) ⟨Nat.le_refl _, Nat.le_refl _⟩) va_S0 fun locs22 hS22 => ?_
  refine lv_ishr hx hb (by decide +kernel) ?_
  have e0 : Int32.ofNat (slen.getD i 0) >>> ((0 : Int32) &&& 31) = nI (slen.getD i 0) := by
    have : i = 0 ∨ i = 1 := by omega
    rcases this with rfl | rfl <;> decide +kernel
  rw [e0]
  exact jr_i hx hb hret rfl hlocks hS22 (by decide +kernel)
theorem j_pre {a n d : Nat} {v : Value} {H0 : Heap} (hv : v = .null ∨ ∃ t, v = .ref t) (ha : a < n) (hn : n < 2 ^ 31) : Jc l V G D cT L xs jyPre jcPre 3 (some .int) (d) [.int (nI a), .int (nI n), v] H0 (jQi G H0 (nI a)) := by
  have key : ∀ w : Value, lg_sl [.int (nI a), .int (nI n), w] = lg_sl [.int (nI a), .int (nI n), w] := fun _ => rfl
  clear key
  have hc : v.category = 1 := by rcases hv with rfl | ⟨t, rfl⟩ <;> rfl
  have hlen : (lg_sl [.int (nI a), .int (nI n), v]).length ≤ 3 := by rcases hv with rfl | ⟨t, rfl⟩ <;> exact Nat.le_refl _
  refine Jc_of (by decide +kernel) hlen ?_
  rintro p e s m args below meth c ls hx hb hml hown hts hWs rfl hlocks hret hl
  have hown : s.vm.findClass "jdk/internal/util/Preconditions" = some m.cls := hown
  have hE := hWs.2.2.2.2.2.2.1
  have hZ := hWs.2.2.2.2.2.2.2.2.2.1
  have hZ2 := hWs.2.2.2.2.2.2.2.2.2.2.1
  have S : CallFix p m c jcPre 3 s args gw "jdk/internal/util/Preconditions" := ⟨hx, hb, hml, hown, hts⟩
  refine lv_iload_n (k := 0) hx hb (by decide +kernel) rfl (lv_at hl 0 rfl) ?_
  refine lv_if_lt (off := 8) (tgt := 9) hx hb (by decide +kernel) (by decide) (fun q => absurd q (nI_pos (by omega))) (fun _ => ?_)
  refine lv_iload_n (k := 0) hx hb (by decide +kernel) rfl (lv_at hl 0 rfl) ?_
  refine lv_iload_n (k := 1) hx hb (by decide +kernel) rfl (lv_at hl 1 rfl) ?_
  refine lv_icmp_lt (off := 10) (tgt := 16) hx hb (by decide +kernel) (by decide) (fun _ => ?_) (fun q => absurd (nI_lt ha hn) q)
  refine lv_iload_n (k := 0) hx hb (by decide +kernel) rfl (lv_at hl 0 rfl) ?_
  exact jr_i hx hb hret rfl hlocks va_S0 (by decide +kernel)
theorem j_chk {a n d : Nat} {H0 : Heap} (ha : a < n) (hn : n < 2 ^ 31) : Jc l V G D cT L xs jyChk jcChk 2 (none) (d + 1) [.int (nI a), .int (nI n)] H0 (jQv G H0) := by
  refine Jc_of (by decide +kernel) (Nat.le_refl _) ?_
  rintro p e s m args below meth c ls hx hb hml hown hts hWs rfl hlocks hret hl
  have hown : s.vm.findClass "java/lang/String" = some m.cls := hown
  have hE := hWs.2.2.2.2.2.2.1
  have hZ := hWs.2.2.2.2.2.2.2.2.2.1
  have hZ2 := hWs.2.2.2.2.2.2.2.2.2.2.1
  have S : CallFix p m c jcChk 2 s args gw "java/lang/String" := ⟨hx, hb, hml, hown, hts⟩
  refine lv_iload_n (k := 0) hx hb (by decide +kernel) rfl (lv_at hl 0 rfl) ?_
  refine lv_iload_n (k := 1) hx hb (by decide +kernel) rfl (lv_at hl 1 rfl) ?_
  have fin : ∀ v : Value, (v = .null ∨ ∃ t, v = .ref t) → W p l e { frames := d + 1, cells := 0, slots := 0, locals := 30 * (d + 1) } s m args below meth c s.heap [] 0 0 (vx_MQ below (jQv G s.heap) (jXF G) args s 0 0 (fun q => G.1 ≤ q)) (F0 m 5 ls [v, .int (nI n), .int (nI a)]) := by
    intro v hv
    refine jk_i (jc_S (ix := 1059) (nA := 3) (As := [.int (nI a), .int (nI n), v]) S (j_pre (d := d) hv ha hn) (jw_in (by simp [jdL])) (jw_in (by simp [jdL])) (jw_in (by simp [jdL, jyPre])) (jw_in (by simp [jdL])) ⟨by decide +kernel, by decide +kernel, by decide +kernel⟩ rfl ⟨by dsimp only; omega, by dsimp only; omega⟩ hWs va_S0 hl.1 (Nat.le_of_ble_eq_true rfl) (by decide +kernel) ⟨Nat.le_refl _, Nat.le_refl _⟩) va_S0 fun locs37 hS37 => ?_
    refine lv_pop hx hb (by decide +kernel) rfl ?_
    exact jr_v hx hb hret hlocks hS37 (by decide +kernel)
  rcases hZ2 with hZ2 | ⟨t, hZ2⟩
  · refine va_gets hx hb (C := "jdk/internal/util/Preconditions") (n := "SIOOBE_FORMATTER") (d := "Ljava/util/function/BiFunction;") (ref := "jdk/internal/util/Preconditions") (own := "java/lang/String") (index := 1053) hZ2 va_S0 hown (hts _ (jw_in (by simp [jdL]))) (fun _ h => h) (by decide +kernel) ?_
    exact fin _ (Or.inl rfl)
  · refine va_gets hx hb (C := "jdk/internal/util/Preconditions") (n := "SIOOBE_FORMATTER") (d := "Ljava/util/function/BiFunction;") (ref := "jdk/internal/util/Preconditions") (own := "java/lang/String") (index := 1053) hZ2 va_S0 hown (hts _ (jw_in (by simp [jdL]))) (fun _ h => h) (by decide +kernel) ?_
    exact fin _ (Or.inr ⟨t, rfl⟩)
def jch (i a : Nat) : Int32 := nI ((if i = 0 then strW else strS).getD a 0)
theorem jch_ok : (List.range 2).all (fun i => (List.range (slen.getD i 0)).all (fun a => decide (((((sbyt.getD i []).getD a 0) &&& 255).toUInt32 % 65536).toInt32 = jch i a ∧ narrow .char (.int (jch i a)) = .int (jch i a)))) = true := by decide +kernel
theorem jch_at {i a : Nat} (hi : i < 2) (ha : a < slen.getD i 0) : ((((sbyt.getD i []).getD a 0) &&& 255).toUInt32 % 65536).toInt32 = jch i a ∧ narrow .char (.int (jch i a)) = .int (jch i a) := of_decide_eq_true (List.all_eq_true.mp (List.all_eq_true.mp jch_ok i (List.mem_range.mpr hi)) a (List.mem_range.mpr ha))
theorem slen_lt {i : Nat} (hi : i < 2) : slen.getD i 0 < 2 ^ 31 := by
  have : i = 0 ∨ i = 1 := by omega
  rcases this with rfl | rfl <;> decide +kernel
theorem j_lch {i a d : Nat} {H0 : Heap} (hi : i < 2) (ha : a < slen.getD i 0) : Jc l V G D cT L xs jyLch jcLch 2 (some .char) (d + 2) [.ref (V i), .int (nI a)] H0 (jQi G H0 (jch i a)) := by
  refine Jc_of (by decide +kernel) (Nat.le_refl _) ?_
  rintro p e s m args below meth c ls hx hb hml hown hts hWs rfl hlocks hret hl
  have hown : s.vm.findClass "java/lang/StringLatin1" = some m.cls := hown
  have hE := hWs.2.2.2.2.2.2.1
  have hZ := hWs.2.2.2.2.2.2.2.2.2.1
  have hZ2 := hWs.2.2.2.2.2.2.2.2.2.2.1
  have S : CallFix p m c jcLch 2 s args gw "java/lang/StringLatin1" := ⟨hx, hb, hml, hown, hts⟩
  refine lv_iload_n (k := 1) hx hb (by decide +kernel) rfl (lv_at hl 1 rfl) ?_
  refine lv_aload_n (k := 0) hx hb (by decide +kernel) rfl (lv_at hl 0 rfl) ?_
  refine va_tlen hx hb (hE.1 i hi).2.2.2 va_S0 rfl (by decide +kernel) ?_
  refine jk_v (jc_S (ix := 9) (nA := 2) (As := [.int (nI a), .int (nI (slen.getD i 0))]) S (j_chk (d := d) ha (slen_lt hi)) (jw_in (by simp [jdL])) (jw_in (by simp [jdL])) (jw_in (by simp [jdL, jyChk])) (jw_in (by simp [jdL])) ⟨by decide +kernel, by decide +kernel, by decide +kernel⟩ rfl ⟨by dsimp only; omega, by dsimp only; omega⟩ hWs va_S0 hl.1 (Nat.le_of_ble_eq_true rfl) (by decide +kernel) ⟨Nat.le_refl _, Nat.le_refl _⟩) va_S0 fun locs50 hS50 => ?_
  refine lv_aload_n (k := 0) hx hb (by decide +kernel) rfl (lv_at hl 0 rfl) ?_
  refine lv_iload_n (k := 1) hx hb (by decide +kernel) rfl (lv_at hl 1 rfl) ?_
  refine va_tb hx hb (hE.1 i hi).2.2.2 hS50 (vp_in_nI ha (slen_lt hi)) (v := .int ((sbyt.getD i []).getD a 0)) (by rw [nI_clamp (by have := slen_lt hi; omega)]) (by decide +kernel) ?_
  refine lv_sipush (n := 255) (v := 255) hx hb (by decide +kernel) rfl ?_
  refine lv_iand hx hb (by decide +kernel) ?_
  refine lv_i2c hx hb (by decide +kernel) (jch_at hi ha).1 ?_
  exact jr_i hx hb hret (jch_at hi ha).2 hlocks hS50 (by decide +kernel)
theorem j_cha {i a d : Nat} {H0 : Heap} (hi : i < 2) (ha : a < slen.getD i 0) : Jc l V G D cT L xs jyCha jcCha 2 (some .char) (d + 3) [.ref (sA G i), .int (nI a)] H0 (jQi G H0 (jch i a)) := by
  refine Jc_of (by decide +kernel) (Nat.le_refl _) ?_
  rintro p e s m args below meth c ls hx hb hml hown hts hWs rfl hlocks hret hl
  have hown : s.vm.findClass "java/lang/String" = some m.cls := hown
  have hE := hWs.2.2.2.2.2.2.1
  have hZ := hWs.2.2.2.2.2.2.2.2.2.1
  have hZ2 := hWs.2.2.2.2.2.2.2.2.2.2.1
  have S : CallFix p m c jcCha 2 s args gw "java/lang/String" := ⟨hx, hb, hml, hown, hts⟩
  refine lv_aload_n (k := 0) hx hb (by decide +kernel) rfl (lv_at hl 0 rfl) ?_
  refine jk_i (jc_V (ix := 492) (nA := 0) (As := []) S (j_latin (d := d) hi) (jw_in (by simp [jdL])) (jw_in (by simp [jdL])) (jw_in (by simp [jdL, jyLat])) (jw_in (by simp [jdL, jyLat])) (jw_in (by simp [jdL])) ⟨by decide +kernel, by decide +kernel, by decide +kernel⟩ rfl ⟨by dsimp only; omega, by dsimp only; omega⟩ hWs va_S0 (vk_recv hE hi va_S0) hl.1 (Nat.le_of_ble_eq_true rfl) (by decide +kernel) ⟨Nat.le_refl _, Nat.le_refl _⟩) va_S0 fun locs58 hS58 => ?_
  refine lv_if_eq (off := 12) (tgt := 16) hx hb (by decide +kernel) (by decide) (fun q => absurd q (by decide)) (fun _ => ?_)
  refine lv_aload_n (k := 0) hx hb (by decide +kernel) rfl (lv_at hl 0 rfl) ?_
  refine vk_getf hx hb (o := "java/lang/String") (n := "value") (d := "[B") (ref := "java/lang/String") (own := "java/lang/String") (index := 9) (hE.1 i hi).2.2.1 hS58 hown (hts _ (jw_in (by simp [jdL]))) (fun _ h => h) (by decide +kernel) ?_
  refine lv_iload_n (k := 1) hx hb (by decide +kernel) rfl (lv_at hl 1 rfl) ?_
  refine jk_i (jc_S (ix := 495) (nA := 2) (As := [.ref (V i), .int (nI a)]) S (j_lch (d := d) hi ha) (jw_in (by simp [jdL])) (jw_in (by simp [jdL])) (jw_in (by simp [jdL, jyLch])) (jw_in (by simp [jdL])) ⟨by decide +kernel, by decide +kernel, by decide +kernel⟩ rfl ⟨by dsimp only; omega, by dsimp only; omega⟩ hWs hS58 hl.1 (Nat.le_of_ble_eq_true rfl) (by decide +kernel) ⟨Nat.le_refl _, Nat.le_refl _⟩) hS58 fun locs63 hS63 => ?_
  exact jr_i hx hb hret (jch_at hi ha).2 hlocks hS63 (by decide +kernel)
theorem j_can {a d : Nat} {H0 : Heap} (ha : a < 256) : Jc l V G D cT L xs jyCan jcCan 1 (some .boolean) (d) [.int (nI a)] H0 (jQi G H0 1) := by
  refine Jc_of (by decide +kernel) (Nat.le_refl _) ?_
  rintro p e s m args below meth c ls hx hb hml hown hts hWs rfl hlocks hret hl
  have hown : s.vm.findClass "java/lang/StringLatin1" = some m.cls := hown
  have hE := hWs.2.2.2.2.2.2.1
  have hZ := hWs.2.2.2.2.2.2.2.2.2.1
  have hZ2 := hWs.2.2.2.2.2.2.2.2.2.2.1
  have S : CallFix p m c jcCan 1 s args gw "java/lang/StringLatin1" := ⟨hx, hb, hml, hown, hts⟩
  refine lv_iload_n (k := 0) hx hb (by decide +kernel) rfl (lv_at hl 0 rfl) ?_
  refine lv_if_lt (off := 14) (tgt := 15) hx hb (by decide +kernel) (by decide) (fun q => absurd q (nI_pos (by omega))) (fun _ => ?_)
  refine lv_iload_n (k := 0) hx hb (by decide +kernel) rfl (lv_at hl 0 rfl) ?_
  refine lv_sipush (n := 255) (v := nI 255) hx hb (by decide +kernel) rfl ?_
  refine lv_icmp_gt (off := 7) (tgt := 15) hx hb (by decide +kernel) (by decide) (fun q => absurd q (nI_nlt (by omega) (by omega))) (fun _ => ?_)
  refine lv_iconst (n := 1) (v := 1) hx hb (by decide +kernel) rfl ?_
  refine lv_goto (off := 4) (tgt := 16) hx hb (by decide +kernel) (by decide) ?_
  exact jr_i hx hb hret rfl hlocks va_S0 (by decide +kernel)
theorem jb_ok : (List.range 256).all (fun a => (List.range 13).all (fun k => decide (((sbyt.getD 1 []).getD k 0 = (nI a).toInt8.toInt32) ↔ nI a = nI (strS.getD k 0)))) = true := by decide +kernel
theorem jb_at {a k : Nat} (ha : a < 256) (hk : k < 13) : ((sbyt.getD 1 []).getD k 0 = (nI a).toInt8.toInt32) ↔ nI a = nI (strS.getD k 0) := of_decide_eq_true (List.all_eq_true.mp (List.all_eq_true.mp jb_ok a (List.mem_range.mpr ha)) k (List.mem_range.mpr hk))
theorem strS_drop {k : Nat} (hk : k < 13) : strS.drop k = strS.getD k 0 :: strS.drop (k + 1) := by
  have h : (List.range 13).all (fun k => decide (strS.drop k = strS.getD k 0 :: strS.drop (k + 1))) = true := by decide +kernel
  exact of_decide_eq_true (List.all_eq_true.mp h k (List.mem_range.mpr hk))
theorem j_lic {a d : Nat} {H0 : Heap} (ha : a < 256) : Jc l V G D cT L xs jyLic jcLic 6 (some .int) (d) [.ref (V 1), .int (nI a), .int (nI 0), .int (nI 13)] H0 (jQi G H0 (sidx strS 0 (nI a))) := by
  refine Jc_of (by decide +kernel) (Nat.le_of_ble_eq_true rfl) ?_
  rintro p e s m args below meth c ls hx hb hml hown hts hWs rfl hlocks hret hl
  have hown : s.vm.findClass "java/lang/StringLatin1" = some m.cls := hown
  have hE := hWs.2.2.2.2.2.2.1
  have hZ := hWs.2.2.2.2.2.2.2.2.2.1
  have hZ2 := hWs.2.2.2.2.2.2.2.2.2.2.1
  have S : CallFix p m c jcLic 6 s args gw "java/lang/StringLatin1" := ⟨hx, hb, hml, hown, hts⟩
  refine lv_iload_n (k := 1) hx hb (by decide +kernel) rfl (lv_at hl 1 rfl) ?_
  refine lv_i2b hx hb (by decide +kernel) rfl ?_
  refine lv_istore (i := 4) hx hb (by decide +kernel) hl (by decide) rfl (fun ls1 hl1 => ?_)
  refine lv_iload_n (k := 2) hx hb (by decide +kernel) rfl (lv_at hl1 3 rfl) ?_
  refine lv_istore (i := 5) hx hb (by decide +kernel) hl1 (by decide) rfl (fun ls2 hl2 => ?_)
  have lp : ∀ (n k : Nat) (ls : Array Slot), 13 - k = n → k ≤ 13 → lv_has ls 6 [(5, .int (nI k)), (4, .int (nI a).toInt8.toInt32), (0, .ref (V 1)), (3, .int (nI 13))] → W p l e { frames := d, cells := 0, slots := 0, locals := 30 * d } s m args below meth c s.heap [] 0 0 (vx_MQ below (jQi G s.heap (sidx (strS.drop k) k (nI a))) (jXF G) args s 0 0 (fun q => G.1 ≤ q)) (F0 m 7 ls []) := by
    intro n
    induction n with
    | zero =>
      intro k ls e1 e2 hl
      have e3 : k = 13 := by omega
      subst e3
      refine lv_iload (i := 5) hx hb (by decide +kernel) (lv_at hl 0 rfl) ?_
      refine lv_iload_n (k := 3) hx hb (by decide +kernel) rfl (lv_at hl 3 rfl) ?_
      refine lv_icmp_ge (off := 21) (tgt := 31) hx hb (by decide +kernel) (by decide) (fun _ => ?_) (fun q => absurd (nI_le (Nat.le_refl _) (by decide)) q)
      refine lv_iconst (n := -1) (v := -1) hx hb (by decide +kernel) rfl ?_
      exact jr_i hx hb hret rfl hlocks va_S0 (by decide +kernel)
    | succ n ih =>
      intro k ls e1 e2 hl
      refine lv_iload (i := 5) hx hb (by decide +kernel) (lv_at hl 0 rfl) ?_
      refine lv_iload_n (k := 3) hx hb (by decide +kernel) rfl (lv_at hl 3 rfl) ?_
      refine lv_icmp_ge (off := 21) (tgt := 31) hx hb (by decide +kernel) (by decide) (fun q => absurd q (nI_ge (by omega) (by decide))) (fun _ => ?_)
      refine lv_aload_n (k := 0) hx hb (by decide +kernel) rfl (lv_at hl 2 rfl) ?_
      refine lv_iload (i := 5) hx hb (by decide +kernel) (lv_at hl 0 rfl) ?_
      refine va_tb hx hb (hE.1 1 (by decide)).2.2.2 va_S0 (vp_in_nI (show k < 13 by omega) (by decide)) (v := .int ((sbyt.getD 1 []).getD k 0)) (by rw [nI_clamp (by omega)]) (by decide +kernel) ?_
      refine lv_iload (i := 4) hx hb (by decide +kernel) (lv_at hl 1 rfl) ?_
      rw [strS_drop (show k < 13 by omega)]
      unfold sidx
      refine lv_icmp_ne (off := 6) (tgt := 25) hx hb (by decide +kernel) (by decide) (fun q => ?_) (fun q => ?_)
      · rw [if_neg (fun z => q ((jb_at ha (by omega)).mpr z))]
        refine lv_iinc (i := 5) (k := 0) (n := 1) (v := nI (k + 1)) hx hb (by decide +kernel) hl rfl (nI_succ k).symm (by decide) rfl (fun ls' hl' => ?_)
        refine lv_goto (off := -21) (tgt := 7) hx hb (by decide +kernel) (by decide) ?_
        exact ih (k + 1) ls' (by omega) (by omega) hl'
      · rw [if_pos ((jb_at ha (by omega)).mp q)]
        refine lv_iload (i := 5) hx hb (by decide +kernel) (lv_at hl 0 rfl) ?_
        exact jr_i hx hb hret rfl hlocks va_S0 (by decide +kernel)
  exact lp 13 0 ls2 rfl (by decide) (lv_sub hl2 [0, 1, 2, 5] rfl)
theorem j_lin {a d : Nat} {H0 : Heap} (ha : a < 256) : Jc l V G D cT L xs jyLin jcLin 4 (some .int) (d + 1) [.ref (V 1), .int (nI a), .int (nI 0), .int (nI 13)] H0 (jQi G H0 (sidx strS 0 (nI a))) := by
  refine Jc_of (by decide +kernel) (Nat.le_refl _) ?_
  rintro p e s m args below meth c ls hx hb hml hown hts hWs rfl hlocks hret hl
  have hown : s.vm.findClass "java/lang/StringLatin1" = some m.cls := hown
  have hE := hWs.2.2.2.2.2.2.1
  have hZ := hWs.2.2.2.2.2.2.2.2.2.1
  have hZ2 := hWs.2.2.2.2.2.2.2.2.2.2.1
  have S : CallFix p m c jcLin 4 s args gw "java/lang/StringLatin1" := ⟨hx, hb, hml, hown, hts⟩
  refine lv_iload_n (k := 1) hx hb (by decide +kernel) rfl (lv_at hl 1 rfl) ?_
  refine jk_i (jc_S (ix := 88) (nA := 1) (As := [.int (nI a)]) S (j_can (d := d) ha) (jw_in (by simp [jdL])) (jw_in (by simp [jdL])) (jw_in (by simp [jdL, jyCan])) (jw_in (by simp [jdL])) ⟨by decide +kernel, by decide +kernel, by decide +kernel⟩ rfl ⟨by dsimp only; omega, by dsimp only; omega⟩ hWs va_S0 hl.1 (Nat.le_of_ble_eq_true rfl) (by decide +kernel) ⟨Nat.le_refl _, Nat.le_refl _⟩) va_S0 fun locs84 hS84 => ?_
  refine lv_if_ne (off := 5) (tgt := 9) hx hb (by decide +kernel) (by decide) (fun _ => ?_) (fun q => absurd q (by decide))
  refine lv_iload_n (k := 2) hx hb (by decide +kernel) rfl (lv_at hl 2 rfl) ?_
  refine lv_iconst (n := 0) (v := nI 0) hx hb (by decide +kernel) rfl ?_
  refine va_mmax (index := 92) hx hb (hml.trans hl.1.symm) hown (hts _ (jw_in (by simp [jdL]))) (hts _ (jd_in (by simp))) (hts _ (jd_in (by simp))) (hts _ (jd_in (by simp))) (by show 1 ≤ d + 1; omega) (by show _ ≤ 30 * (d + 1); simp; omega) (Nat.le_refl _) (Nat.le_refl _) (by decide +kernel) ?_
  refine lv_istore_n (k := 2) (i := 2) hx hb (by decide +kernel) rfl hl (by decide) rfl (fun ls1 hl1 => ?_)
  refine lv_iload_n (k := 3) hx hb (by decide +kernel) rfl (lv_at hl1 3 rfl) ?_
  refine lv_aload_n (k := 0) hx hb (by decide +kernel) rfl (lv_at hl1 1 rfl) ?_
  refine va_tlen hx hb (hE.1 1 (by decide)).2.2.2 hS84 rfl (by decide +kernel) ?_
  refine va_mmin (index := 38) hx hb (hml.trans hl1.1.symm) hown (hts _ (jw_in (by simp [jdL]))) (hts _ (jd_in (by simp))) (hts _ (jd_in (by simp))) (hts _ (jd_in (by simp))) (by show 1 ≤ d + 1; omega) (by show _ ≤ 30 * (d + 1); simp; omega) (Nat.le_refl _) (Nat.le_refl _) (by decide +kernel) ?_
  refine lv_istore_n (k := 3) (i := 3) hx hb (by decide +kernel) rfl hl1 (by decide) rfl (fun ls2 hl2 => ?_)
  have hl3 : lv_has ls2 4 [(0, .ref (V 1)), (1, .int (nI a)), (2, .int (nI 0)), (3, .int (nI 13))] := lv_sub hl2 [2, 3, 1, 0] rfl
  refine lv_iload_n (k := 2) hx hb (by decide +kernel) rfl (lv_at hl3 2 rfl) ?_
  refine lv_iload_n (k := 3) hx hb (by decide +kernel) rfl (lv_at hl3 3 rfl) ?_
  refine lv_icmp_lt (off := 5) (tgt := 29) hx hb (by decide +kernel) (by decide) (fun _ => ?_) (fun q => absurd (nI_lt (by decide) (by decide)) q)
  refine lv_aload_n (k := 0) hx hb (by decide +kernel) rfl (lv_at hl3 0 rfl) ?_
  refine lv_iload_n (k := 1) hx hb (by decide +kernel) rfl (lv_at hl3 1 rfl) ?_
  refine lv_iload_n (k := 2) hx hb (by decide +kernel) rfl (lv_at hl3 2 rfl) ?_
  refine lv_iload_n (k := 3) hx hb (by decide +kernel) rfl (lv_at hl3 3 rfl) ?_
  refine jk_i (jc_S (ix := 95) (nA := 4) (As := [.ref (V 1), .int (nI a), .int (nI 0), .int (nI 13)]) S (j_lic (d := d) ha) (jw_in (by simp [jdL])) (jw_in (by simp [jdL])) (jw_in (by simp [jdL, jyLic])) (jw_in (by simp [jdL])) ⟨by decide +kernel, by decide +kernel, by decide +kernel⟩ rfl ⟨by dsimp only; omega, by dsimp only; omega⟩ hWs hS84 hl3.1 (Nat.le_of_ble_eq_true rfl) (by decide +kernel) ⟨Nat.le_refl _, Nat.le_refl _⟩) hS84 fun locs98 hS98 => ?_
  exact jr_i hx hb hret rfl hlocks hS98 (by decide +kernel)
theorem j_in2 {a d : Nat} {H0 : Heap} (ha : a < 256) : Jc l V G D cT L xs jyIn2 jcIn2 3 (some .int) (d + 2) [.ref (sA G 1), .int (nI a), .int (nI 0)] H0 (jQi G H0 (sidx strS 0 (nI a))) := by
  refine Jc_of (by decide +kernel) (Nat.le_refl _) ?_
  rintro p e s m args below meth c ls hx hb hml hown hts hWs rfl hlocks hret hl
  have hown : s.vm.findClass "java/lang/String" = some m.cls := hown
  have hE := hWs.2.2.2.2.2.2.1
  have hZ := hWs.2.2.2.2.2.2.2.2.2.1
  have hZ2 := hWs.2.2.2.2.2.2.2.2.2.2.1
  have S : CallFix p m c jcIn2 3 s args gw "java/lang/String" := ⟨hx, hb, hml, hown, hts⟩
  have hi : 1 < 2 := by decide
  refine lv_aload_n (k := 0) hx hb (by decide +kernel) rfl (lv_at hl 0 rfl) ?_
  refine jk_i (jc_V (ix := 492) (nA := 0) (As := []) S (j_latin (i := 1) (d := d) hi) (jw_in (by simp [jdL])) (jw_in (by simp [jdL])) (jw_in (by simp [jdL, jyLat])) (jw_in (by simp [jdL, jyLat])) (jw_in (by simp [jdL])) ⟨by decide +kernel, by decide +kernel, by decide +kernel⟩ rfl ⟨by dsimp only; omega, by dsimp only; omega⟩ hWs va_S0 (vk_recv hE hi va_S0) hl.1 (Nat.le_of_ble_eq_true rfl) (by decide +kernel) ⟨Nat.le_refl _, Nat.le_refl _⟩) va_S0 fun locs103 hS103 => ?_
  refine lv_if_eq (off := 19) (tgt := 23) hx hb (by decide +kernel) (by decide) (fun q => absurd q (by decide)) (fun _ => ?_)
  refine lv_aload_n (k := 0) hx hb (by decide +kernel) rfl (lv_at hl 0 rfl) ?_
  refine vk_getf hx hb (o := "java/lang/String") (n := "value") (d := "[B") (ref := "java/lang/String") (own := "java/lang/String") (index := 9) (hE.1 1 hi).2.2.1 hS103 hown (hts _ (jw_in (by simp [jdL]))) (fun _ h => h) (by decide +kernel) ?_
  refine lv_iload_n (k := 1) hx hb (by decide +kernel) rfl (lv_at hl 1 rfl) ?_
  refine lv_iload_n (k := 2) hx hb (by decide +kernel) rfl (lv_at hl 2 rfl) ?_
  refine lv_aload_n (k := 0) hx hb (by decide +kernel) rfl (lv_at hl 0 rfl) ?_
  refine jk_i (jc_V (ix := 505) (nA := 0) (As := []) S (j_len (i := 1) (d := d) hi) (jw_in (by simp [jdL])) (jw_in (by simp [jdL])) (jw_in (by simp [jdL, jyLen])) (jw_in (by simp [jdL, jyLen])) (jw_in (by simp [jdL])) ⟨by decide +kernel, by decide +kernel, by decide +kernel⟩ rfl ⟨by dsimp only; omega, by dsimp only; omega⟩ hWs hS103 (vk_recv hE hi hS103) hl.1 (Nat.le_of_ble_eq_true rfl) (by decide +kernel) ⟨Nat.le_refl _, Nat.le_refl _⟩) hS103 fun locs110 hS110 => ?_
  refine jk_i (jc_S (ix := 637) (nA := 4) (As := [.ref (V 1), .int (nI a), .int (nI 0), .int (nI 13)]) S (j_lin (d := d) ha) (jw_in (by simp [jdL])) (jw_in (by simp [jdL])) (jw_in (by simp [jdL, jyLin])) (jw_in (by simp [jdL])) ⟨by decide +kernel, by decide +kernel, by decide +kernel⟩ rfl ⟨by dsimp only; omega, by dsimp only; omega⟩ hWs hS110 hl.1 (Nat.le_of_ble_eq_true rfl) (by decide +kernel) ⟨Nat.le_refl _, Nat.le_refl _⟩) hS110 fun locs111 hS111 => ?_
  refine lv_goto (off := 16) (tgt := 36) hx hb (by decide +kernel) (by decide) ?_
  exact jr_i hx hb hret rfl hlocks hS111 (by decide +kernel)
theorem j_ind {a d : Nat} {H0 : Heap} (ha : a < 256) : Jc l V G D cT L xs jyInd jcInd 2 (some .int) (d + 3) [.ref (sA G 1), .int (nI a)] H0 (jQi G H0 (sidx strS 0 (nI a))) := by
  refine Jc_of (by decide +kernel) (Nat.le_refl _) ?_
  rintro p e s m args below meth c ls hx hb hml hown hts hWs rfl hlocks hret hl
  have hown : s.vm.findClass "java/lang/String" = some m.cls := hown
  have hE := hWs.2.2.2.2.2.2.1
  have hZ := hWs.2.2.2.2.2.2.2.2.2.1
  have hZ2 := hWs.2.2.2.2.2.2.2.2.2.2.1
  have S : CallFix p m c jcInd 2 s args gw "java/lang/String" := ⟨hx, hb, hml, hown, hts⟩
  have hi : 1 < 2 := by decide
  refine lv_aload_n (k := 0) hx hb (by decide +kernel) rfl (lv_at hl 0 rfl) ?_
  refine lv_iload_n (k := 1) hx hb (by decide +kernel) rfl (lv_at hl 1 rfl) ?_
  refine lv_iconst (n := 0) (v := nI 0) hx hb (by decide +kernel) rfl ?_
  refine jk_i (jc_V (ix := 633) (nA := 2) (As := [.int (nI a), .int (nI 0)]) S (j_in2 (d := d) ha) (jw_in (by simp [jdL])) (jw_in (by simp [jdL])) (jw_in (by simp [jdL, jyIn2])) (jw_in (by simp [jdL, jyIn2])) (jw_in (by simp [jdL])) ⟨by decide +kernel, by decide +kernel, by decide +kernel⟩ rfl ⟨by dsimp only; omega, by dsimp only; omega⟩ hWs va_S0 (vk_recv hE hi va_S0) hl.1 (Nat.le_of_ble_eq_true rfl) (by decide +kernel) ⟨Nat.le_refl _, Nat.le_refl _⟩) va_S0 fun locs119 hS119 => ?_
  exact jr_i hx hb hret rfl hlocks hS119 (by decide +kernel)
theorem jdk_3 {st : List Value} {K : List Value → Option PO} : jdkF 1003 st K = match st with | .int i :: .ref o :: t => bif Nat.ble (cats t) 8 && (Nat.beq o 1000 || Nat.beq o 1001) then (bif inb i (strl o).length then K (.int (nI ((strl o).getD i.toNatClampNeg 0)) :: t) else none) else none | _ => none := rfl
theorem jdk_4 {st : List Value} {K : List Value → Option PO} : jdkF 1004 st K = match st with | .ref o :: t => bif Nat.ble (cats t) 8 && (Nat.beq o 1000 || Nat.beq o 1001) then K (.int (nI (strl o).length) :: t) else none | _ => none := rfl
theorem jdk_5 {st : List Value} {K : List Value → Option PO} : jdkF 1005 st K = match st with | .int c :: .ref o :: t => bif Nat.ble (cats t) 8 && Nat.beq o 1001 then (bif inb c 256 then K (.int (sidx (strl o) 0 c) :: t) else none) else none | _ => none := rfl
theorem so_jv {k pc ix r1 r2 r3 : Nat} {v : Value} {st : List Value} {K : List Value → Option PO} {o : PO} {ls : Array Slot} (hk : k < 307) (hx : p.tables.exec = Jvm.exec) (hb : c.code = m_b k) (hml : c.maxLocals = m_L k) (hls : ls.size = m_L k) (hown : s.vm.findClass (m_own k) = some m.cls) (hts : ∀ w ∈ gw, w.before args s = true)
    (hWs : Wst V G D cT L xs s) (hS : va_S (fun q : Nat => G.1 ≤ q) s.heap H locs) (hR : 10 ≤ R.frames ∧ 200 ≤ R.locals) (hc : cells ≤ R.cells) (hs : slots ≤ R.slots) (hr : 1000 ≤ r1)
    (hd : decode (m_b k) pc = .ok (.invokevirtual ix, 3)) (hop : rowOp k pc (.invokevirtual ix) (pc + 3) r1 r2 r3 v = true) (h : jdkF r1 st K = some o)
    (kk : ∀ t locs1, K t = some o → va_S (fun q : Nat => G.1 ≤ q) s.heap H locs1 → W p l e R s m args below meth c H locs1 cells slots Q (F0 m (pc + 3) ls (t.map (cz G)))) : W p l e R s m args below meth c H locs cells slots Q (F0 m pc ls (st.map (cz G))) := by
  have hop2 : (bif Nat.ble 1000 r1 then Nat.ble 1003 r1 && (Nat.ble r1 1005 && (isC r3 (7, m_ci k, ix, r1, 0) && Nat.beq (m_ci k) 8)) else chkOwn k r1 r2 r3 ix && (decide (m_hh r1 = []) && (isC (m_p2 r1) (3, r1, 0, 0, 0) && (isC (m_p3 r1) (4, r1, 0, 0, 0) && (Nat.beq (r2 / 1024) (m_ci r1) && Nat.ble (m_ci r1 + 1) 13))))) = true := hop
  rw [Nat.ble_eq_true_of_le hr] at hop2
  have hop3 : (Nat.ble 1003 r1 && (Nat.ble r1 1005 && (isC r3 (7, m_ci k, ix, r1, 0) && Nat.beq (m_ci k) 8))) = true := hop2
  simp only [Bool.and_eq_true, Nat.ble_eq] at hop3
  obtain ⟨h1, h2, h3, -⟩ := hop3
  have hlk := gw_C h3 (Nat.le_of_ble_eq_true rfl) rfl
  rw [own_ci hk] at hown
  have S : CallFix p m c (m_b k) (m_L k) s args gw (clN (m_ci k)) := ⟨hx, hb, hml, hown, hts⟩
  have hE := hWs.2.2.2.2.2.2.1
  have w : ∀ {t : List Value}, Nat.ble (cats t) 8 = true → ((t.map (cz G)).map fun v => v.category).sum ≤ 8 := fun q => by rw [cats_eq]; exact Nat.le_of_ble_eq_true q
  have hr3 : r1 = 1003 ∨ r1 = 1004 ∨ r1 = 1005 := by omega
  rcases hr3 with rfl | rfl | rfl
  · rw [jdk_3] at h
    split at h
    · rename_i i a t
      obtain ⟨q1, h⟩ := bif_c h
      obtain ⟨q2, h⟩ := bif_c h
      rw [Bool.and_eq_true, Bool.or_eq_true, Nat.beq_eq, Nat.beq_eq] at q1
      obtain ⟨q1, q3⟩ := q1
      have q2 := inb_in q2
      have hi0 : ¬ i < 0 := fun z => q2 (Or.inl z)
      obtain ⟨j, hj, rfl⟩ := nI_of hi0
      have hjl : j < (strl a).length := by
        have : ¬ (strl a).length ≤ (nI j).toNatClampNeg := fun z => q2 (Or.inr z)
        rw [nI_clamp hj] at this
        omega
      rw [nI_clamp hj] at h
      rcases q3 with rfl | rfl
      · refine jk_i (jc_V (ix := ix) (nA := 1) (As := [.int (nI j)]) S (j_cha (i := 0) (d := 0) (by decide) hjl) hlk (jw_in (by simp [jdL])) (jw_in (by simp [jdL, jyCha])) (jw_in (by simp [jdL, jyCha])) (jw_in (by simp [jdL])) ⟨by decide +kernel, by decide +kernel, by decide +kernel⟩ rfl ⟨by omega, by omega⟩ hWs hS (vk_recv (i := 0) hE (by decide) hS) hls (w q1) hd ⟨hc, hs⟩) hS fun locs1 hS1 => kk (.int (nI ((strl 1000).getD j 0)) :: t) locs1 h hS1
      · refine jk_i (jc_V (ix := ix) (nA := 1) (As := [.int (nI j)]) S (j_cha (i := 1) (d := 0) (by decide) hjl) hlk (jw_in (by simp [jdL])) (jw_in (by simp [jdL, jyCha])) (jw_in (by simp [jdL, jyCha])) (jw_in (by simp [jdL])) ⟨by decide +kernel, by decide +kernel, by decide +kernel⟩ rfl ⟨by omega, by omega⟩ hWs hS (vk_recv (i := 1) hE (by decide) hS) hls (w q1) hd ⟨hc, hs⟩) hS fun locs1 hS1 => kk (.int (nI ((strl 1001).getD j 0)) :: t) locs1 h hS1
    · cases h
  · rw [jdk_4] at h
    split at h
    · rename_i a t
      obtain ⟨q1, h⟩ := bif_c h
      rw [Bool.and_eq_true, Bool.or_eq_true, Nat.beq_eq, Nat.beq_eq] at q1
      obtain ⟨q1, q3⟩ := q1
      rcases q3 with rfl | rfl
      · refine jk_i (jc_V (ix := ix) (nA := 0) (As := []) S (j_len (i := 0) (d := 0) (by decide)) hlk (jw_in (by simp [jdL])) (jw_in (by simp [jdL, jyLen])) (jw_in (by simp [jdL, jyLen])) (jw_in (by simp [jdL])) ⟨by decide +kernel, by decide +kernel, by decide +kernel⟩ rfl ⟨by omega, by omega⟩ hWs hS (vk_recv (i := 0) hE (by decide) hS) hls (w q1) hd ⟨hc, hs⟩) hS fun locs1 hS1 => kk (.int (nI (strl 1000).length) :: t) locs1 h hS1
      · refine jk_i (jc_V (ix := ix) (nA := 0) (As := []) S (j_len (i := 1) (d := 0) (by decide)) hlk (jw_in (by simp [jdL])) (jw_in (by simp [jdL, jyLen])) (jw_in (by simp [jdL, jyLen])) (jw_in (by simp [jdL])) ⟨by decide +kernel, by decide +kernel, by decide +kernel⟩ rfl ⟨by omega, by omega⟩ hWs hS (vk_recv (i := 1) hE (by decide) hS) hls (w q1) hd ⟨hc, hs⟩) hS fun locs1 hS1 => kk (.int (nI (strl 1001).length) :: t) locs1 h hS1
    · cases h
  · rw [jdk_5] at h
    split at h
    · rename_i i a t
      obtain ⟨q1, h⟩ := bif_c h
      obtain ⟨q2, h⟩ := bif_c h
      rw [Bool.and_eq_true, Nat.beq_eq] at q1
      obtain ⟨q1, rfl⟩ := q1
      have q2 := inb_in q2
      have hi0 : ¬ i < 0 := fun z => q2 (Or.inl z)
      obtain ⟨j, hj, rfl⟩ := nI_of hi0
      have hjl : j < 256 := by
        have : ¬ 256 ≤ (nI j).toNatClampNeg := fun z => q2 (Or.inr z)
        rw [nI_clamp hj] at this
        omega
      refine jk_i (jc_V (ix := ix) (nA := 1) (As := [.int (nI j)]) S (j_ind (d := 0) hjl) hlk (jw_in (by simp [jdL])) (jw_in (by simp [jdL, jyInd])) (jw_in (by simp [jdL, jyInd])) (jw_in (by simp [jdL])) ⟨by decide +kernel, by decide +kernel, by decide +kernel⟩ rfl ⟨by omega, by omega⟩ hWs hS (vk_recv (i := 1) hE (by decide) hS) hls (w q1) hd ⟨hc, hs⟩) hS fun locs1 hS1 => kk (.int (sidx (strl 1001) 0 (nI j)) :: t) locs1 h hS1
    · cases h
end JD
