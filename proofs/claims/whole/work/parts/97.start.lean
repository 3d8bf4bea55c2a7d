/-! THE CLAIM OUT OF ONE WALK OF THE LAW'S BODY. Your part is whole_start (and what it stands on); all else here is the same for every law, but numbers. -/
def R_law : String := "PacketLawLaw"
def lw_P (b : Addr) (xs : List Int32) (args : Array Value) (s : State) : Prop := args = #[.ref b] ∧ s.IntsAt b xs ∧ xs.length ≤ 4096 ∧ (Jvm.Cond.and given_1 narrow_1).before args s = true
def lw_Q (_ : Array Value) (s : State) (o : Outcome) (t : State) : Prop := o = .returned (some (.int 1)) ∧ Framed s o t [] 601024 7293034
def lw_Z (below : List Frame) (a : Array Value) (s : State) : State → Prop := fun t => ∃ o, t.status = .running ∧ Ended t below o ∧ lw_Q a s o t
/-- what holds at the law's entry: the machine, the code, the tables' words (any of lw_tbl by 'hts w (by decide +kernel)'), the script of L ints xs at the cell b, what the Statement gives of the start (any of its parts by flat_of_before) -/
def lw_At (p : Program) (s : State) (m : MethodId) (meth : Method) (c : Code) (b L : Nat) (xs : Nat → Int32) : Prop :=
  p.tables.exec = Jvm.exec ∧ c.code = code ∧ meth.sig.returnType = ret ∧ c.maxLocals = 8 ∧ s.vm.findClass R_law = some m.cls ∧ (∀ w ∈ lw_tbl, w.before #[Value.ref b] s = true) ∧ va_X b L xs s s.heap ∧ b < s.heap.size ∧ meth.locks = false ∧ (Jvm.Cond.and given_1 narrow_1).before #[Value.ref b] s = true ∧ c.exceptionTable.toList = []
/-! what holds when all objects are made -/
theorem fdV_R {G : Nat × Nat × Nat × Nat} {f a : Nat → Nat → Int32} {g b : Nat → Nat → Int64} {C S N L : Nat} {R R' : Nat → Nat → Bool} {o k kd : Nat} (h : kd = 2 → R o k = R' o k) : fdV G (f, g, a, b, C, S, N, L, R) o k kd = fdV G (f, g, a, b, C, S, N, L, R') o k kd := by
  rcases kd with _ | _ | _ | n
  · rfl
  · rfl
  · show (bif R o k then Value.ref (adr G (rft o k)) else .null) = (bif R' o k then Value.ref (adr G (rft o k)) else .null)
    rw [h rfl]
  · rfl
theorem wm_T {G : Nat × Nat × Nat × Nat} {D : va_G} {cT : ClassId × ClassId × ClassId} {L C S : Nat} {xs : Nat → Int32} {H : Heap} (h : Wmd G D cT L xs true (f3_c, z64, a1 xs, z64, C, S, 146, L, r3_c) H) : Wmd G D cT L xs false (f3_c, z64, a1 xs, z64, C, S, 146, L, fun _ _ => true) H := by
  obtain ⟨h1, h2, -, h4, h5⟩ := h
  refine ⟨?_, h2, fun _ => ⟨rfl, fun _ _ => rfl⟩, h4, h5⟩
  have e : wsO G cT (f3_c, z64, a1 xs, z64, C, S, 146, L, fun _ _ => true) = wsO G cT (f3_c, z64, a1 xs, z64, C, S, 146, L, r3_c) := by
    unfold wsO
    refine List.map_congr_left fun i hi => ?_
    have hi2 : i < 146 := List.mem_range.mp hi
    have ef : fdL G (f3_c, z64, a1 xs, z64, C, S, 146, L, fun _ _ => true) i = fdL G (f3_c, z64, a1 xs, z64, C, S, 146, L, r3_c) i := by
      unfold fdL
      refine List.map_congr_left fun k hk => ?_
      have h8 := List.all_eq_true.mp (List.all_eq_true.mp r3_all i (List.mem_range.mpr hi2)) k hk
      refine fdV_R fun e9 => ?_
      rw [e9] at h8
      exact (show r3_c i k = true from h8).symm
    unfold ceO
    rw [ef]
  rw [e]
  exact h1
theorem no_lt {P : Nat → Prop} : ∀ j, j < 0 → P j := fun j h => absurd h (Nat.not_lt_zero j)
theorem inv_T {C S L : Nat} {xs : Nat → Int32} : Inv (f3_c, z64, a1 xs, z64, C, S, 146, L, fun _ _ => true) := by
  refine ⟨⟨⟨0, by decide, rfl, rfl⟩, ⟨0, by decide, rfl, rfl⟩, rfl, rfl⟩, ⟨⟨0, by decide, rfl, rfl, fun j h => absurd h (Nat.not_lt_zero j)⟩, rfl, rfl⟩, ⟨⟨0, by decide, rfl, rfl, fun j hj => ⟨fun h => absurd h (by omega), fun _ => ?_⟩⟩, fun p _ => ⟨rfl, ⟨0, by decide, by decide, rfl⟩, rfl, rfl, Or.inl ⟨rfl, rfl⟩⟩, fun j _ => ⟨rfl, rfl, 0, 0, by decide, by decide, rfl, rfl⟩, fun j _ => ⟨rfl, 0, by decide, by decide, rfl⟩, fun j _ => ⟨rfl, 0, by decide, by decide, rfl⟩⟩, ⟨0, by decide, rfl, rfl, fun j h => absurd h (Nat.not_lt_zero j)⟩, ⟨⟨0, by decide, rfl, rfl⟩, ⟨0, by decide, rfl, rfl, fun j h => absurd h (Nat.not_lt_zero j)⟩, fun c _ => rfl⟩, ⟨0, 0, by decide, by decide, rfl, rfl, rfl, rfl, fun l h => absurd h (Nat.not_lt_zero l), fun i h => absurd h (Nat.not_lt_zero i), rfl⟩, ⟨0, by decide, rfl, rfl, fun i h => absurd h (Nat.not_lt_zero i), fun i _ _ => rfl⟩, ⟨0, by decide, rfl, rfl, fun j h => absurd h (Nat.not_lt_zero j)⟩, ⟨fun j _ => rfl, fun j _ => ⟨rfl, 0, by decide, by decide, rfl⟩⟩, [], Nat.zero_le _, rfl, rfl, fun x h => absurd h List.not_mem_nil, fun r h => absurd h (Nat.not_lt_zero r)⟩
  show (if j < 820 then nI 1 else a0 xs 23 j) = nI 1
  rw [if_pos hj]
theorem same_forget {s t : State} {L : List Loc} {c n c' n' : Nat} (h : s.sameButNew t L c n) (hL : ∀ q ∈ L, s.heap.size ≤ q.base) (hc : c ≤ c') (hn : n ≤ n') : s.sameButNew t [] c' n' := by
  obtain ⟨h1, h2, h3, h4, h5, h6⟩ := h
  refine ⟨h1, h2, by omega, h4, by omega, fun a x hx => ?_⟩
  obtain ⟨y, e1, e2, e3, e4⟩ := h6 a x hx
  refine ⟨y, e1, e2, e3, fun i _ => e4 i fun hm => ?_⟩
  have h8 : s.heap.size ≤ a := hL _ hm
  have h9 : a < s.heap.size := (Array.getElem?_eq_some_iff.mp hx).1
  exact absurd h9 (Nat.not_lt.mpr h8)
/-! what the Statement gives of the start -/
def fcN : List Cond := flatC (Jvm.Cond.and given_1 narrow_1)
def tmS (i : Nat) : Term := if i = 0 then .string RX8 97 else .string RX8 89
theorem fc_hex : (List.range 2).all (fun i => decide (Cond.exactly (tmS i) "java/lang/String" ∈ fcN)) = true := by decide +kernel
theorem fc_hco : (List.range 2).all (fun i => decide (Cond.eq (.field (tmS i) "java/lang/String" "coder" "B") (.int 0) ∈ fcN)) = true := by decide +kernel
theorem fc_har : (List.range 2).all (fun i => decide (Cond.arrayOf (.field (tmS i) "java/lang/String" "value" "[B") .byte ∈ fcN)) = true := by decide +kernel
theorem fc_hle : (List.range 2).all (fun i => decide (Cond.eq (.length (.field (tmS i) "java/lang/String" "value" "[B")) (.int (Int32.ofNat (slen.getD i 0))) ∈ fcN)) = true := by decide +kernel
theorem fc_hel : (List.range 2).all (fun i => (List.range (slen.getD i 0)).all (fun j => decide (fcN[(if i = 0 then 79 else 222) + j]? = some (Cond.eq (.elem (.field (tmS i) "java/lang/String" "value" "[B") (.int (Int32.ofNat j))) (.int ((sbyt.getD i []).getD j 0)))))) = true := by decide +kernel
theorem fc_hne : Cond.not (Cond.eq (tmS 0) (tmS 1)) ∈ fcN := by decide +kernel
theorem fc_len : (List.range 2).all (fun i => decide (slen.getD i 0 < 2 ^ 31)) = true := by decide +kernel
theorem fc_u : Cond.isRef (.static Bundle.tN "UNASSIGNED_STACK" Bundle.steD) ∈ fcN := by decide +kernel
theorem fc_n : Cond.isRef (.static Bundle.tN "SUPPRESSED_SENTINEL" Bundle.listD) ∈ fcN := by decide +kernel
theorem fc_c : Cond.eq (.static "java/lang/String" "COMPACT_STRINGS" "Z") (.int 1) ∈ fcN := by decide +kernel
theorem fc_f : Cond.isRef (.static "jdk/internal/util/Preconditions" "SIOOBE_FORMATTER" "Ljava/util/function/BiFunction;") ∈ fcN := by decide +kernel
theorem fc_x : (List.range 4).all (fun a => (List.range 4).all (fun b => Nat.beq a b || decide (Cond.not (.castable (excN (a + 1)) (excN (b + 1))) ∈ fcN))) = true := by decide +kernel
theorem gw_sub {w : Cond} (h : w ∈ gw) : w ∈ lw_tbl := (List.mem_filter.mp h).1
theorem lw_at {p : Nat} {w : Cond} (h : isW p w = true) : w ∈ lw_tbl := List.mem_of_getElem? (of_decide_eq_true h)
theorem arr_k {s : State} {args : Array Value} {ty : FieldType} (h : (Cond.arrayClass ty).before args s = true) : ∃ cA : ClassId, ArrOfT s cA ty ∧ s.vm.findClass ("[" ++ ty.toString) = some cA := by
  obtain ⟨cA, kA, comp, h1, h2, h3⟩ := Cond.arrayClass_spec (args := args) (first := s) (o := none) (s := s) (idx := []) h
  exact ⟨cA, fun N z => ⟨(fun k h => by cases h), kA, h2, comp, h3⟩, h1⟩
theorem vk_Sc {N : Nat} {len : List Nat} {byt : List (List Int32)} {k1 k2 adV : Nat → Nat} {A : Nat → Prop} {U : State} {H : Heap} (h : vk_S N len byt k1 adV A U H) (e : ∀ i, i < N → k1 i = k2 i) : vk_S N len byt k2 adV A U H := by
  refine ⟨fun i hi => ?_, fun i j hi hj q => h.2 i j hi hj (by rw [e i hi, e j hj]; exact q)⟩
  rw [← e i hi]
  exact h.1 i hi
set_option maxHeartbeats 4000000 in
theorem ws_s {p : Program} {s : State} {m : MethodId} {meth : Method} {c : Code} {b L : Nat} {xs : Nat → Int32} (C0 : lw_At p s m meth c b L xs) : ∃ (V : Nat → Nat) (G : Nat × Nat × Nat × Nat) (D : va_G) (cT : ClassId × ClassId × ClassId), Wst V G D cT L xs s ∧ G.1 = s.heap.size ∧ G.2.1 = b := by
  obtain ⟨hx, hb, hr, hml, hown, hts, hX, hbl, hlocks, hgv, hxt⟩ := id C0
  have hs : ∀ w ∈ fcN, w.before #[Value.ref b] s = true := flat_of_before _ hgv
  have hA : ∀ a : Nat, a < s.heap.size → ¬ (fun q : Nat => s.heap.size ≤ q) a := fun a h => Nat.not_le.mpr h
  have hU : ∀ ci : Nat, ∃ q : ClassId × (Nat → Nat), ci < 13 → u_Kn s (cN ci).1 (cN ci).2.1 (cN ci).2.2 q.1 q.2 := by
    intro ci
    by_cases h : ci < 13
    · obtain ⟨cC, iS, hk⟩ := u_known (C := (cN ci).1) (T := (cN ci).2.1) (N := (cN ci).2.2) (n := (cN ci).2.2) hts (ulw_all h) (hts _ (gw_sub (cw_ins h)))
      exact ⟨(cC, iS), fun _ => hk⟩
    · exact ⟨(m.cls, fun _ => 0), fun q => absurd q h⟩
  obtain ⟨dd, hdd⟩ := Classical.axiomOfChoice hU
  obtain ⟨c1, A1, B1⟩ := arr_k (hts _ (gw_sub ac_i))
  obtain ⟨c2, A2, B2⟩ := arr_k (hts _ (gw_sub ac_l))
  obtain ⟨c3, A3, B3⟩ := arr_k (hts _ (gw_sub ac_z))
  have m2 : ∀ {f : Nat → Bool}, (List.range 2).all f = true → ∀ i, i < 2 → f i = true := fun h i hi => List.all_eq_true.mp h i (List.mem_range.mpr hi)
  obtain ⟨adK, adV, hVS, hev⟩ := vk_Sof (args := #[Value.ref b]) (s := s) (N := 2) (tm := tmS) (len := slen) (byt := sbyt) (A := fun q : Nat => s.heap.size ≤ q)
    (fun i hi => of_decide_eq_true (m2 fc_len i hi)) (fun i hi => hs _ (of_decide_eq_true (m2 fc_hex i hi))) (fun i hi => hs _ (of_decide_eq_true (m2 fc_hco i hi))) (fun i hi => hs _ (of_decide_eq_true (m2 fc_har i hi))) (fun i hi => hs _ (of_decide_eq_true (m2 fc_hle i hi)))
    (fun i hi j hj => hs _ (List.mem_of_getElem? (of_decide_eq_true (List.all_eq_true.mp (m2 fc_hel i hi) j (List.mem_range.mpr hj)))))
    (fun i j hi hj hij => by
      have h4 : (i = 0 ∧ j = 1) ∨ (i = 1 ∧ j = 0) := by omega
      rcases h4 with ⟨rfl, rfl⟩ | ⟨rfl, rfl⟩
      · exact Or.inl (hs _ fc_hne)
      · exact Or.inr (hs _ fc_hne)) hA
  refine ⟨adV, (s.heap.size, b, adK 0, adK 1), (fun k => (dd k).1, fun k => (dd k).2), (c1, c2, c3), ⟨⟨fun k q hq => ?_, fun k q hq => ?_⟩, hX, hbl, Nat.le_refl _, ?_, ?_, ?_, ?_, ?_, ?_, ?_, fun w hw => ?_, fun a b' h1 h2 h3 h4 h5 => ?_⟩, rfl, rfl⟩
  · have hk : k < 13 := (List.getElem?_eq_some_iff.mp hq).1
    have e1 := (cN_at hk).1
    rw [e1] at hq
    cases hq
    exact hdd k hk
  · have hk : k < 3 := (List.getElem?_eq_some_iff.mp hq).1
    have h3 : k = 0 ∨ k = 1 ∨ k = 2 := by omega
    rcases h3 with rfl | rfl | rfl
    · cases hq; exact ⟨A1, B1⟩
    · cases hq; exact ⟨A2, B2⟩
    · cases hq; exact ⟨A3, B3⟩
  · exact vk_R.of (hts (.stringRef RX8 97 txW) (lw_at (p := 774) (by decide +kernel))) (hev 0 (by decide))
  · exact vk_R.of (hts (.stringRef RX8 89 txS) (lw_at (p := 823) (by decide +kernel))) (hev 1 (by decide))
  · refine vk_Sc hVS fun i hi => ?_
    have h4 : i = 0 ∨ i = 1 := by omega
    rcases h4 with rfl | rfl
    · rfl
    · rfl
  · exact vx_Zqof (hts _ (lw_at (p := 677) (by decide +kernel))) (hts _ (lw_at (p := 111) (by decide +kernel))) (hs _ fc_u) hA
  · exact vx_Zqof (hts _ (lw_at (p := 679) (by decide +kernel))) (hts _ (lw_at (p := 111) (by decide +kernel))) (hs _ fc_n) hA
  · exact va_Zof (hts _ (lw_at (p := 784) (by decide +kernel))) (hts _ (lw_at (p := 117) (by decide +kernel))) (va_eqt (hs _ fc_c)) hA
  · exact va_Zqof (hts _ (lw_at (p := 800) (by decide +kernel))) (hts _ (lw_at (p := 119) (by decide +kernel))) (hs _ fc_f) hA
  · have h1 := List.mem_filter.mp hw
    have h2 : w.onTables = true := by
      have hf := h1.2
      cases w with
      | declares x => rfl
      | castable C T => rfl
      | _ => cases hf
    exact va_Nw.of h2 (hts w h1.1)
  · have h6 := List.all_eq_true.mp (List.all_eq_true.mp fc_x (a - 1) (List.mem_range.mpr (by omega))) (b' - 1) (List.mem_range.mpr (by omega))
    have h7 : Nat.beq (a - 1) (b' - 1) = false := by
      cases e : Nat.beq (a - 1) (b' - 1) with
      | false => rfl
      | true => have := Nat.eq_of_beq_eq_true e; omega
    rw [h7, Bool.false_or, show a - 1 + 1 = a by omega, show b' - 1 + 1 = b' by omega] at h6
    exact va_Nc.of (hs _ (of_decide_eq_true h6))
