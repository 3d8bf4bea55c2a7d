/-! SOUNDNESS, D: the heap's steps -/
theorem cl_self {ci : Nat} (h : ci < 13) {k : Nat} (hk : k < (cN ci).2.2) : ((cN ci).2.1 k).1 = (cN ci).1 := by
  have h1 : (List.range 13).all (fun ci => (List.range (cN ci).2.2).all (fun k => decide (((cN ci).2.1 k).1 = (cN ci).1))) = true := by decide +kernel
  exact of_decide_eq_true (List.all_eq_true.mp (List.all_eq_true.mp h1 ci (List.mem_range.mpr h)) k (List.mem_range.mpr hk))
def tyL (cT : ClassId × ClassId × ClassId) : List (ClassId × FieldType) := [(cT.1, .int), (cT.2.1, .long), (cT.2.2, .boolean)]
/-- the pure state's world on the heap, in the middle of a method -/
def Wmd (G : Nat × Nat × Nat × Nat) (D : va_G) (cT : ClassId × ClassId × ClassId) (L : Nat) (xs : Nat → Int32) (ini : Bool) (σ : PS) (H : Heap) : Prop :=
  va_P D vwC (wsO G cT σ) H ∧ xN (XX σ) ≤ 146 ∧ (ini = false → xN (XX σ) = 146 ∧ ∀ o k, xR (XX σ) o k = true) ∧ AI σ 999 = xs ∧ xL (XX σ) = L
section SD
variable {p : Program} {l : Launch} {e : Env} {R : Room} {s : State} {m : MethodId} {args : Array Value} {below : List Frame} {meth : Method} {c : Code} {H : Heap} {locs : List Loc} {cells slots : Nat} {Q : State → Prop}
variable {G : Nat × Nat × Nat × Nat} {D : va_G} {cT : ClassId × ClassId × ClassId} {L : Nat} {xs : Nat → Int32} {ini : Bool} {σ : PS} {o : Option PO}
theorem okN_lt {a : Nat} (hW : Wmd G D cT L xs ini σ H) (h : okN ini σ a = true) (ha : a < 146) : a < xN (XX σ) := by
  cases ini with
  | false => rw [(hW.2.2.1 rfl).1]; exact ha
  | true =>
    have h2 : Nat.ble (a + 1) (xN (XX σ)) = true := h
    exact Nat.le_of_ble_eq_true h2
theorem so_gf {k pc r1 r2 r3 ix a : Nat} {K : Value → Option PO} {o : PO} {ls : Array Slot} {t : List Value} (hk : k < 307) (hx : p.tables.exec = Jvm.exec) (hb : c.code = m_b k) (hown : s.vm.findClass (m_own k) = some m.cls) (hts : ∀ w ∈ gw, w.before args s = true)
    (hK : va_K D vwC (tyL cT) s) (hW : Wmd G D cT L xs ini σ H)
    (hd : decode (m_b k) pc = .ok (.getfield ix, 3)) (hop : rowOp k pc (.getfield ix) (pc + 3) r1 r2 r3 .null = true) (h : (bif Nat.beq (objc a) (r2 / 4) && okN ini σ a then gfF ini σ a r1 (r2 % 4) K else none) = some o)
    (kk : ∀ w, K w = some o → W p l e R s m args below meth c H locs cells slots Q (F0 m (pc + 3) ls (cz G w :: t))) : W p l e R s m args below meth c H locs cells slots Q (F0 m pc ls (.ref (adr G a) :: t)) := by
  have hop2 : (isC r3 (0, m_ci k, ix, r2 / 4, r1) && (Nat.ble (r1 + 1) (cN (r2 / 4)).2.2 && (Nat.ble (r2 / 4 + 1) 13 && Nat.beq (fkT (r2 / 4) r1) (r2 % 4)))) = true := hop
  cases hc : (Nat.beq (objc a) (r2 / 4) && okN ini σ a) with
  | false => rw [hc] at h; cases h
  | true =>
    rw [hc] at h
    dsimp only [cond] at h
    simp only [Bool.and_eq_true, Nat.beq_eq, Nat.ble_eq] at hc hop2
    obtain ⟨h1, h2⟩ := hc
    obtain ⟨g1, g2, g3, g4⟩ := hop2
    rw [← h1] at g1 g2 g3 g4
    have hci : objc a < 13 := by omega
    have ha := objc_obj (o := a) (by omega)
    have hn := okN_lt hW h2 ha.1
    have hnf : r1 < nfT (objc a) := by rw [← (cN_at hci).2]; omega
    rw [own_ci hk] at hown
    refine va_get (C := (cN (objc a)).1) (T := (cN (objc a)).2.1) (N := (cN (objc a)).2.2) (ci := objc a) (fs := fdL G σ a) hx hb hts (gw_cls hci) hown hK hW.1 a (by rw [wsO_at hn, ceO_obj (by omega)]) (cN_at hci).1 r1 (by omega) (hts _ (gw_C g1 (Nat.le_of_ble_eq_true rfl) rfl)) (fun x hxx => by rw [cl_self hci (by omega)] at hxx; exact hxx) (fdL_at hnf) hd ?_
    rw [g4]
    rw [← g4] at h ⊢
    obtain ⟨ty, -, hty⟩ := kd_ty (kd_at hci hnf)
    rcases hty with ⟨e1, -⟩ | ⟨e1, -⟩ | ⟨e1, -⟩ | ⟨e1, -⟩
    · rw [e1] at h ⊢; exact kk _ h
    · rw [e1] at h ⊢; exact kk _ h
    · rw [e1] at h ⊢; exact kk _ h
    · rw [e1] at h ⊢
      have h5 : (bif (!ini || xR (XX σ) a r1) then K (.ref (rft a r1)) else none) = some o := h
      cases e5 : xR (XX σ) a r1 with
      | true =>
        rw [e5, Bool.or_true] at h5
        have := kk _ h5
        show W p l e R s m args below meth c H locs cells slots Q (F0 m (pc + 3) ls ((bif xR (XX σ) a r1 then .ref (adr G (rft a r1)) else .null) :: t))
        rw [e5]
        exact this
      | false =>
        cases ini with
        | false => rw [(hW.2.2.1 rfl).2] at e5; cases e5
        | true => rw [e5] at h5; cases h5
theorem fdV_u2i {σ : PS} {X : Nat → Nat → Int32} {a k kd : Nat} {o' k' : Nat} : fdV G (X, σ.2) o' k' kd = match kd with | 1 => fdV G σ o' k' 1 | 2 => fdV G σ o' k' 2 | _ => .int (X o' k') := by
  unfold fdV
  split <;> simp_all
theorem Wmd_fld {σ' : PS} {a k : Nat} {v : Value} {H1 : Heap} (hW : Wmd G D cT L xs ini σ H) (ha : objc a < 99) (hn : a < xN (XX σ)) (hk : k < nfT (objc a)) (hv : fdV G σ' a k (fkT (objc a) k) = v)
    (hne : ∀ o' k', (o' ≠ a ∨ k' ≠ k) → fdV G σ' o' k' (fkT (objc o') k') = fdV G σ o' k' (fkT (objc o') k')) (hA : AI σ' = AI σ) (hL : AL σ' = AL σ) (hN : xN (XX σ') = xN (XX σ)) (hR : ini = false → XX σ' = XX σ) (hl : xL (XX σ') = xL (XX σ))
    (hP : va_P D vwC ((wsO G cT σ).set a (adr G a, .inr (objc a, (fdL G σ a).set k v))) H1) : Wmd G D cT L xs ini σ' H1 := by
  obtain ⟨-, h2, h3, h4, h5⟩ := hW
  refine ⟨?_, by rw [hN]; exact h2, fun q => by rw [hR q]; exact h3 q, by rw [hA]; exact h4, by rw [hl]; exact h5⟩
  rw [wsO_set (e := .inr (objc a, (fdL G σ a).set k v)) hN hn (ceO_fld ha hk hv fun k' q => hne a k' (Or.inr q)) (fun i q => ceO_same (by rw [hA]) (by rw [hL]) (fun k' => hne i k' (Or.inl q)))]
  exact hP
end SD
