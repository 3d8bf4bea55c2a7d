/-! SOUNDNESS, A: words, sums, branches, locals -/
def gw : List Cond := lw_tbl.filter goodWord
theorem gw_of {w : Cond} (h : w ∈ lw_tbl) (g : goodWord w = true) : w ∈ gw := List.mem_filter.mpr ⟨h, g⟩
theorem gw_W {p : Nat} {w : Cond} (h : isW p w = true) (g : goodWord w = true) : w ∈ gw := gw_of (List.mem_of_getElem? (of_decide_eq_true h)) g
theorem wl_in {wl : List WC} {T : List Cond} (e : wl.map (fun x => match x.1 with | 99 => T.getD x.2.1 .tt | _ => wdec x) = T) {x : WC} {j : Nat} (h : wl.getD j (99, 0, 0, 0, 0) = x) (hx : x.1 ≤ 10) : wdec x ∈ T := by
  have hm : x ∈ wl := by
    rw [List.getD_eq_getElem?_getD] at h
    cases e2 : wl[j]? with
    | none => rw [e2] at h; subst h; exact absurd hx (by decide)
    | some y => rw [e2] at h; cases h; exact List.mem_of_getElem? e2
  have : (fun x : WC => match x.1 with | 99 => T.getD x.2.1 .tt | _ => wdec x) x ∈ wl.map (fun x => match x.1 with | 99 => T.getD x.2.1 .tt | _ => wdec x) := List.mem_map_of_mem hm
  rw [e] at this
  dsimp only at this
  split at this
  · omega
  · exact this
theorem cond_or {b : Bool} {x y z : WC} (h : (bif b then x else y) = z) : x = z ∨ y = z := by
  cases b
  · exact Or.inr h
  · exact Or.inl h
theorem wcAt_in {p : Nat} {x : WC} (h : wcAt p = x) (hx : x.1 ≤ 10) : wdec x ∈ lw_tbl := by
  show wdec x ∈ k2_sels lw_privs ++ (tables_1_1 ++ (tables_1_2 ++ (tables_1_3 ++ (tables_1_4 ++ (tables_1_5 ++ (tables_1_6 ++ (tables_1_7 ++ (tables_1_8 ++ (tables_1_9 ++ tables_1_10)))))))))
  unfold wcAt at h
  rcases cond_or h with h | h
  · have := wl_in wl_10_ok h hx
    exact List.mem_append_right _ (List.mem_append_right _ (List.mem_append_right _ (List.mem_append_right _ (List.mem_append_right _ (List.mem_append_right _ (List.mem_append_right _ (List.mem_append_right _ (List.mem_append_right _ (List.mem_append_right _ (this))))))))))
  rcases cond_or h with h | h
  · have := wl_in wl_9_ok h hx
    exact List.mem_append_right _ (List.mem_append_right _ (List.mem_append_right _ (List.mem_append_right _ (List.mem_append_right _ (List.mem_append_right _ (List.mem_append_right _ (List.mem_append_right _ (List.mem_append_right _ (List.mem_append_left _ this)))))))))
  rcases cond_or h with h | h
  · have := wl_in wl_8_ok h hx
    exact List.mem_append_right _ (List.mem_append_right _ (List.mem_append_right _ (List.mem_append_right _ (List.mem_append_right _ (List.mem_append_right _ (List.mem_append_right _ (List.mem_append_right _ (List.mem_append_left _ this))))))))
  rcases cond_or h with h | h
  · have := wl_in wl_7_ok h hx
    exact List.mem_append_right _ (List.mem_append_right _ (List.mem_append_right _ (List.mem_append_right _ (List.mem_append_right _ (List.mem_append_right _ (List.mem_append_right _ (List.mem_append_left _ this)))))))
  rcases cond_or h with h | h
  · have := wl_in wl_6_ok h hx
    exact List.mem_append_right _ (List.mem_append_right _ (List.mem_append_right _ (List.mem_append_right _ (List.mem_append_right _ (List.mem_append_right _ (List.mem_append_left _ this))))))
  rcases cond_or h with h | h
  · have := wl_in wl_5_ok h hx
    exact List.mem_append_right _ (List.mem_append_right _ (List.mem_append_right _ (List.mem_append_right _ (List.mem_append_right _ (List.mem_append_left _ this)))))
  rcases cond_or h with h | h
  · have := wl_in wl_4_ok h hx
    exact List.mem_append_right _ (List.mem_append_right _ (List.mem_append_right _ (List.mem_append_right _ (List.mem_append_left _ this))))
  rcases cond_or h with h | h
  · have := wl_in wl_3_ok h hx
    exact List.mem_append_right _ (List.mem_append_right _ (List.mem_append_right _ (List.mem_append_left _ this)))
  rcases cond_or h with h | h
  · have := wl_in wl_2_ok h hx
    exact List.mem_append_right _ (List.mem_append_right _ (List.mem_append_left _ this))
  rcases cond_or h with h | h
  · have := wl_in wl_1_ok h hx
    exact List.mem_append_right _ (List.mem_append_left _ this)
  have := wl_in wl_0_ok h hx
  exact List.mem_append_left _ this
theorem gw_C {p : Nat} {x : WC} (h : isC p x = true) (hx : x.1 ≤ 10) (g : goodWord (wdec x) = true) : wdec x ∈ gw := gw_of (wcAt_in (eqW_eq h) hx) g
theorem own_ci {k : Nat} (h : k < 307) : m_own k = clN (m_ci k) := by
  have h1 : (List.range 307).all (fun k => decide (m_own k = clN (m_ci k))) = true := by decide +kernel
  exact of_decide_eq_true (List.all_eq_true.mp h1 k (List.mem_range.mpr h))
section SA
variable {p : Program} {l : Launch} {e : Env} {R : Room} {s : State} {m : MethodId} {args : Array Value} {below : List Frame} {meth : Method} {c : Code} {H : Heap} {locs : List Loc} {cells slots : Nat} {Q : State → Prop} {G : Nat × Nat × Nat × Nat}
def txW : String := "paper glass tin film mixed year kilos share grams layers fee target off towns ban least trips orphans makers schemes if or and not min max "
def txS : String := ";=+-*/(),[]<>"
set_option maxHeartbeats 4000000 in
theorem so_ar {k pc nx r1 r2 r3 : Nat} {i : Instr} {v : Value} {st : List Value} {K : List Value → Option PO} {o : PO} {ls : Array Slot} (hk : k < 307) (hx : p.tables.exec = Jvm.exec) (hb : c.code = m_b k) (hown : s.vm.findClass (m_own k) = some m.cls) (hts : ∀ w ∈ gw, w.before args s = true)
    (hW1 : vk_R RX8 97 txW G.2.2.1 s) (hW2 : vk_R RX8 89 txS G.2.2.2 s)
    (hd : decode (m_b k) pc = .ok (i, ilen i)) (hop : rowOp k pc i nx r1 r2 r3 v = true) (h : arF i v st K = some o)
    (kk : ∀ t, K t = some o → W p l e R s m args below meth c H locs cells slots Q (F0 m (pc + ilen i) ls (t.map (cz G)))) : W p l e R s m args below meth c H locs cells slots Q (F0 m pc ls (st.map (cz G))) := by
  cases i
  case iconst n =>
    have hv : v = .int (Int32.ofInt n) := of_decide_eq_true hop
    subst hv
    exact lv_iconst hx hb hd rfl (kk _ h)
  case bipush n =>
    have hv : v = .int (Int8.ofInt n).toInt32 := of_decide_eq_true hop
    subst hv
    exact lv_bipush hx hb hd rfl (kk _ h)
  case sipush n =>
    have hv : v = .int (Int16.ofInt n).toInt32 := of_decide_eq_true hop
    subst hv
    exact lv_sipush hx hb hd rfl (kk _ h)
  case lconst n =>
    have hv : v = .long (Int64.ofNat n) := of_decide_eq_true hop
    subst hv
    exact lv_lconst hx hb hd rfl (kk _ h)
  case ldc ix =>
    cases v with
    | int x => exact lv_ldc hx hb hown (hts _ (gw_W hop rfl)) hd (kk _ h)
    | ref a =>
      have hop2 : ((Nat.beq a 1000 && Nat.beq ix 97 || Nat.beq a 1001 && Nat.beq ix 89) && Nat.beq (m_ci k) 8) = true := hop
      simp only [Bool.and_eq_true, Bool.or_eq_true, Nat.beq_eq] at hop2
      obtain ⟨h1, h2⟩ := hop2
      have ho : m_own k = RX8 := by rw [own_ci hk, h2]; rfl
      rw [ho] at hown
      rcases h1 with ⟨rfl, rfl⟩ | ⟨rfl, rfl⟩
      · exact va_ldcS hx hb hown hW1 hd (kk _ h)
      · exact va_ldcS hx hb hown hW2 hd (kk _ h)
    | _ => cases hop
  case ldc_w ix =>
    cases v with
    | int x => exact lv_ldcw hx hb hown (hts _ (gw_W hop rfl)) hd (kk _ h)
    | _ => cases hop
  case ldc2_w ix =>
    cases v with
    | long x => exact lv_ldc2 hx hb hown (hts _ (gw_W hop rfl)) hd (kk _ h)
    | _ => cases hop
  case iadd => dsimp only [arF] at h; split at h <;> first | exact lv_iadd hx hb hd (kk _ h) | cases h
  case isub => dsimp only [arF] at h; split at h <;> first | exact lv_isub hx hb hd (kk _ h) | cases h
  case imul => dsimp only [arF] at h; split at h <;> first | exact lv_imul hx hb hd (kk _ h) | cases h
  case iand => dsimp only [arF] at h; split at h <;> first | exact lv_iand hx hb hd (kk _ h) | cases h
  case ior => dsimp only [arF] at h; split at h <;> first | exact lv_ior hx hb hd (kk _ h) | cases h
  case ixor => dsimp only [arF] at h; split at h <;> first | exact lv_ixor hx hb hd (kk _ h) | cases h
  case ishl => dsimp only [arF] at h; split at h <;> first | exact lv_ishl hx hb hd (kk _ h) | cases h
  case ishr => dsimp only [arF] at h; split at h <;> first | exact lv_ishr hx hb hd (kk _ h) | cases h
  case iushr => dsimp only [arF] at h; split at h <;> first | exact lv_iushr hx hb hd rfl (kk _ h) | cases h
  case ladd => dsimp only [arF] at h; split at h <;> first | exact lv_ladd hx hb hd (kk _ h) | cases h
  case lsub => dsimp only [arF] at h; split at h <;> first | exact lv_lsub hx hb hd (kk _ h) | cases h
  case lmul => dsimp only [arF] at h; split at h <;> first | exact lv_lmul hx hb hd (kk _ h) | cases h
  case lor => dsimp only [arF] at h; split at h <;> first | exact lv_lor hx hb hd (kk _ h) | cases h
  case lshl => dsimp only [arF] at h; split at h <;> first | exact lv_lshl hx hb hd rfl (kk _ h) | cases h
  case lcmp => dsimp only [arF] at h; split at h <;> first | exact W.lcmp hx hb hd (kk _ h) | cases h
  case ineg => dsimp only [arF] at h; split at h <;> first | exact lv_ineg hx hb hd (kk _ h) | cases h
  case i2l => dsimp only [arF] at h; split at h <;> first | exact lv_i2l hx hb hd rfl (kk _ h) | cases h
  case l2i => dsimp only [arF] at h; split at h <;> first | exact lv_l2i hx hb hd rfl (kk _ h) | cases h
  case i2c => dsimp only [arF] at h; split at h <;> first | exact lv_i2c hx hb hd rfl (kk _ h) | cases h
  case idiv =>
    dsimp only [arF] at h
    split at h
    · rename_i y x t
      cases e9 : obl (y = 0) with
      | true => rw [e9] at h; cases h
      | false => rw [e9] at h; exact lv_idiv hx hb hd (fun q => by rw [obl_t q] at e9; cases e9) (kk _ h)
    · cases h
  case irem =>
    dsimp only [arF] at h
    split at h
    · rename_i y x t
      cases e9 : obl (y = 0) with
      | true => rw [e9] at h; cases h
      | false => rw [e9] at h; exact lv_irem hx hb hd (fun q => by rw [obl_t q] at e9; cases e9) (kk _ h)
    · cases h
  case ldiv =>
    dsimp only [arF] at h
    split at h
    · rename_i y x t
      cases e9 : obl (y = 0) with
      | true => rw [e9] at h; cases h
      | false => rw [e9] at h; exact lv_ldiv hx hb hd (fun q => by rw [obl_t q] at e9; cases e9) (kk _ h)
    · cases h
  case lrem =>
    dsimp only [arF] at h
    split at h
    · rename_i y x t
      cases e9 : obl (y = 0) with
      | true => rw [e9] at h; cases h
      | false => rw [e9] at h; exact lv_lrem hx hb hd (fun q => by rw [obl_t q] at e9; cases e9) (kk _ h)
    · cases h
  case dup => dsimp only [arF] at h; split at h <;> first | exact lv_dup hx hb hd rfl (kk _ h) | cases h
  case pop => dsimp only [arF] at h; split at h <;> first | exact lv_pop hx hb hd rfl (kk _ h) | cases h
  case dup2 => dsimp only [arF] at h; split at h <;> first | exact lv_dup2_2 hx hb hd rfl (kk _ h) | exact lv_dup2_11 hx hb hd rfl rfl (kk _ h) | cases h
  all_goals (dsimp only [arF] at h; cases h)
theorem so_br {k pc r1 : Nat} {i : Instr} {st : List Value} {KT KF : List Value → Option PO} {o : PO} {ls : Array Slot} (hx : p.tables.exec = Jvm.exec) (hb : c.code = m_b k)
    (hd : decode (m_b k) pc = .ok (i, 3)) (ht : ∀ off, ((∃ cc, i = .ifCond cc off) ∨ (∃ cc, i = .if_icmp cc off)) → (pc : Int) + off = (r1 : Int)) (h : brF i st KT KF = some o)
    (kt : ∀ t, KT t = some o → W p l e R s m args below meth c H locs cells slots Q (F0 m r1 ls (t.map (cz G)))) (kf : ∀ t, KF t = some o → W p l e R s m args below meth c H locs cells slots Q (F0 m (pc + 3) ls (t.map (cz G)))) : W p l e R s m args below meth c H locs cells slots Q (F0 m pc ls (st.map (cz G))) := by
  have cs : ∀ {P : Prop} {a b : Option PO}, (bif obl P then a else b) = some o → (P → a = some o) ∧ (¬ P → b = some o) := by
    intro P a b h
    refine ⟨fun q => ?_, fun q => ?_⟩
    · rw [obl_t q] at h; exact h
    · rw [obl_f q] at h; exact h
  cases i
  case ifCond cc off =>
    have ht2 := ht off (Or.inl ⟨_, rfl⟩)
    dsimp only [brF] at h
    split at h
    · cases cc <;> dsimp only at h
      · exact lv_if_eq hx hb hd ht2 (fun q => kt _ ((cs h).1 q)) (fun q => kf _ ((cs h).2 q))
      · exact lv_if_ne hx hb hd ht2 (fun q => kt _ ((cs h).2 q)) (fun q => kf _ ((cs h).1 q))
      · exact lv_if_lt hx hb hd ht2 (fun q => kt _ ((cs h).1 q)) (fun q => kf _ ((cs h).2 q))
      · exact lv_if_ge hx hb hd ht2 (fun q => kt _ ((cs h).1 q)) (fun q => kf _ ((cs h).2 q))
      · exact lv_if_gt hx hb hd ht2 (fun q => kt _ ((cs h).1 q)) (fun q => kf _ ((cs h).2 q))
      · exact lv_if_le hx hb hd ht2 (fun q => kt _ ((cs h).1 q)) (fun q => kf _ ((cs h).2 q))
    · cases h
  case if_icmp cc off =>
    have ht2 := ht off (Or.inr ⟨_, rfl⟩)
    dsimp only [brF] at h
    split at h
    · cases cc <;> dsimp only at h
      · exact lv_icmp_eq hx hb hd ht2 (fun q => kt _ ((cs h).1 q)) (fun q => kf _ ((cs h).2 q))
      · exact lv_icmp_ne hx hb hd ht2 (fun q => kt _ ((cs h).2 q)) (fun q => kf _ ((cs h).1 q))
      · exact lv_icmp_lt hx hb hd ht2 (fun q => kt _ ((cs h).1 q)) (fun q => kf _ ((cs h).2 q))
      · exact lv_icmp_ge hx hb hd ht2 (fun q => kt _ ((cs h).1 q)) (fun q => kf _ ((cs h).2 q))
      · exact lv_icmp_gt hx hb hd ht2 (fun q => kt _ ((cs h).1 q)) (fun q => kf _ ((cs h).2 q))
      · exact lv_icmp_le hx hb hd ht2 (fun q => kt _ ((cs h).1 q)) (fun q => kf _ ((cs h).2 q))
    · cases h
  all_goals (dsimp only [brF] at h; cases h)
end SA
