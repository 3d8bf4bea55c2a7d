/-! SOUNDNESS, G: the world beside the objects; what a run costs -/
def slen : List Nat := [strW.length, strS.length]
def sbyt : List (List Int32) := [strW.map nI, strS.map nI]
def lwB : List Cond := lw_tbl.filter (fun w => match w with | .declares _ => true | .castable _ _ => true | _ => false)
/-- what lies beside the objects: tables, script, texts, statics -/
def Wst (V : Nat → Nat) (G : Nat × Nat × Nat × Nat) (D : va_G) (cT : ClassId × ClassId × ClassId) (L : Nat) (xs : Nat → Int32) (U : State) : Prop :=
  va_K D vwC (tyL cT) U ∧ va_X G.2.1 L xs U U.heap ∧ G.2.1 < G.1 ∧ G.1 ≤ U.heap.size ∧ vk_R RX8 97 txW G.2.2.1 U ∧ vk_R RX8 89 txS G.2.2.2 U ∧
  vk_S 2 slen sbyt (fun i => if i = 0 then G.2.2.1 else G.2.2.2) V (fun q => G.1 ≤ q) U U.heap ∧
  vx_Zq Bundle.tN "UNASSIGNED_STACK" Bundle.steD (fun q => G.1 ≤ q) U U.heap ∧ vx_Zq Bundle.tN "SUPPRESSED_SENTINEL" Bundle.listD (fun q => G.1 ≤ q) U U.heap ∧
  va_Z "java/lang/String" "COMPACT_STRINGS" "Z" (.int 1) (fun q => G.1 ≤ q) U U.heap ∧ va_Zq "jdk/internal/util/Preconditions" "SIOOBE_FORMATTER" "Ljava/util/function/BiFunction;" (fun q => G.1 ≤ q) U U.heap ∧
  (∀ w ∈ lwB, va_Nw w U) ∧ ∀ a b : Nat, 1 ≤ a → a ≤ 4 → 1 ≤ b → b ≤ 4 → a ≠ b → va_Nc (excN a) (excN b) U
section SG
variable {V : Nat → Nat} {G : Nat × Nat × Nat × Nat} {D : va_G} {cT : ClassId × ClassId × ClassId} {L : Nat} {xs : Nat → Int32} {ini : Bool}
theorem Wst_move {s U : State} {H : Heap} {locs : List Loc} (h : Wst V G D cT L xs s) (hS : va_S (fun q : Nat => G.1 ≤ q) s.heap H locs) (hU : U.heap = H) (hW : s.WarmedH U.vm) : Wst V G D cT L xs U := by
  obtain ⟨h1, h2, h3, h4, h5, h6, h7, h8, h9, h10, h11, h12, h13⟩ := h
  have ha := hW.alike
  subst hU
  refine ⟨va_K.moved ha h1, va_X.moved ha (h2.kept (hS.2.1 _ (by omega) (Nat.not_le.mpr h3))), h3, Nat.le_trans h4 hS.1, vk_R.warm hW h5, vk_R.warm hW h6, vk_S.moved ha (h7.kept hS.2.1), vx_Zq.moved ha (h8.kept hS.2.1), vx_Zq.moved ha (h9.kept hS.2.1), va_Z.moved ha (h10.kept hS.2.1), va_Zq.moved ha (h11.kept hS.2.1), fun w hw => ?_, fun a b q1 q2 q3 q4 q5 => va_Nc.moved ha (h13 a b q1 q2 q3 q4 q5)⟩
  have h14 := h12 w hw
  have hf := (List.mem_filter.mp hw).2
  cases w with
  | declares x => exact va_Nw.warmD hW h14
  | castable C T => exact va_Nw.warmC hW h14
  | _ => cases hf
theorem Wst_calling {U : State} {g : JFrame} {mk : MethodId} {a : Array Value} (h : Wst V G D cT L xs U) : Wst V G D cT L xs (U.calling g mk a) :=
  Wst_move h va_S.rf rfl (State.WarmedH.refl U)
def oX (o : PO) : PX := match o with
  | .inl (_, σ) => XX σ
  | .inr (_, σ) => XX σ
def Wdy (G : Nat × Nat × Nat × Nat) (D : va_G) (cT : ClassId × ClassId × ClassId) (L : Nat) (xs : Nat → Int32) (ini : Bool) (σ : PS) (U : State) : Prop := Wmd G D cT L xs ini σ U.heap ∧ (ini = true → U.heap.size = G.1 + xN (XX σ))
def rmF (d mc ms : Nat) : Room := { frames := d + 10, cells := mc, slots := ms, locals := 100 * d + 200 }
def PcM (V : Nat → Nat) (G : Nat × Nat × Nat × Nat) (D : va_G) (cT : ClassId × ClassId × ClassId) (L : Nat) (xs : Nat → Int32) (ini : Bool) (As : List Value) (σ : PS) : Array Value → State → Prop :=
  va_Pc (As.map (cz G)) (fun U => Wst V G D cT L xs U ∧ Wdy G D cT L xs ini σ U)
def QcM (G : Nat × Nat × Nat × Nat) (D : va_G) (cT : ClassId × ClassId × ClassId) (L : Nat) (xs : Nat → Int32) (ini : Bool) (o : PO) : Array Value → State → Outcome → State → Prop := match o with
  | .inl (none, σ) => va_Qv (S := Unit) (fun _ => True) (fun _ t => Wdy G D cT L xs ini σ t) (fun q => G.1 ≤ q)
  | .inl (some (.int r), σ) => va_Qi (S := Unit) (fun r' _ => r' = r) (fun _ t => Wdy G D cT L xs ini σ t) (fun q => G.1 ≤ q)
  | .inl (some (.long r), σ) => va_Ql (S := Unit) (fun r' _ => r' = r) (fun _ t => Wdy G D cT L xs ini σ t) (fun q => G.1 ≤ q)
  | _ => va_Qv (S := Unit) (fun _ => False) (fun _ _ => True) (fun q => G.1 ≤ q)
def XcM (G : Nat × Nat × Nat × Nat) (D : va_G) (cT : ClassId × ClassId × ClassId) (L : Nat) (xs : Nat → Int32) (ini : Bool) (o : PO) : String → State → State → Prop := match o with
  | .inr (E, σ) => vx_X (S := Unit) (fun _ => 1 ≤ E ∧ E ≤ 4) (fun E' _ t => E' = excN E ∧ Wdy G D cT L xs ini σ t) (fun q => G.1 ≤ q)
  | _ => vx_X (S := Unit) (fun _ => False) (fun _ _ _ => True) (fun q => G.1 ≤ q)
/-- the contract of a run -/
def Cnt (l : Launch) (V : Nat → Nat) (G : Nat × Nat × Nat × Nat) (D : va_G) (cT : ClassId × ClassId × ClassId) (L : Nat) (xs : Nat → Int32) (ini : Bool) (d k : Nat) (As : List Value) (σ : PS) (o : PO) : Prop :=
  vx_Met l (m_y k) (m_w k :: gw) (rmF d (xC (oX o) - xC (XX σ)) (xS (oX o) - xS (XX σ))) (PcM V G D cT L xs ini As σ) (QcM G D cT L xs ini o) (XcM G D cT L xs ini o) (xC (oX o) - xC (XX σ)) (xS (oX o) - xS (XX σ)) (fun q => G.1 ≤ q)
/-! costs only grow -/
def leX (ini : Bool) (X Y : PX) : Prop := xC X ≤ xC Y ∧ xS X ≤ xS Y ∧ (ini = true → xC Y + xN X ≤ xN Y + xC X)
theorem leX_rfl {X : PX} : leX ini X X := ⟨Nat.le_refl _, Nat.le_refl _, fun _ => Nat.le_of_eq (Nat.add_comm _ _)⟩
theorem leX_tr {X Y Z : PX} (h : leX ini X Y) (g : leX ini Y Z) : leX ini X Z := ⟨Nat.le_trans h.1 g.1, Nat.le_trans h.2.1 g.2.1, fun q => by have := h.2.2 q; have := g.2.2 q; omega⟩
theorem ex_bif {b : Bool} {x y : Option PO} {o : PO} (h : (bif b then x else y) = some o) : x = some o ∨ y = some o := by
  cases b
  · exact Or.inr h
  · exact Or.inl h
theorem ex_nw {σ : PS} {ci N : Nat} {K : Nat → PS → Option PO} {o : PO} {P : Prop} (h : nwF ini σ ci N K = some o) (hK : ∀ q σ', K q σ' = some o → leX ini (XX σ) (XX σ') → P) : P := by
  unfold nwF at h
  rcases ex_bif h with h | h
  · exact hK _ _ h ⟨Nat.le_succ _, Nat.le_add_right _ _, fun _ => by show xC (XX σ) + 1 + xN (XX σ) ≤ xN (XX σ) + 1 + xC (XX σ); omega⟩
  · cases h
theorem ex_na {σ : PS} {kd : Nat} {n : Int32} {K : Nat → PS → Option PO} {o : PO} {P : Prop} (h : naF ini σ kd n K = some o) (hK : ∀ q σ', K q σ' = some o → leX ini (XX σ) (XX σ') → P) : P := by
  unfold naF at h
  rcases ex_bif h with h | h
  · exact hK _ _ h ⟨Nat.le_succ _, Nat.le_add_right _ _, fun _ => by show xC (XX σ) + 1 + xN (XX σ) ≤ xN (XX σ) + 1 + xC (XX σ); omega⟩
  · cases h
theorem ex_ar {i : Instr} {v : Value} {st : List Value} {K : List Value → Option PO} {o : PO} {P : Prop} (h : arF i v st K = some o) (hK : ∀ t, K t = some o → P) : P := by
  unfold arF at h
  split at h <;> first
    | exact hK _ h
    | (cases h; done)
    | (split at h <;> first | exact hK _ h | (cases h; done) | (rcases ex_bif h with h | h <;> first | exact hK _ h | (cases h; done)))
theorem ex_br {i : Instr} {st : List Value} {KT KF : List Value → Option PO} {o : PO} {P : Prop} (h : brF i st KT KF = some o) (hT : ∀ t, KT t = some o → P) (hF : ∀ t, KF t = some o → P) : P := by
  unfold brF at h
  split at h
  · split at h
    · split at h <;> (rcases ex_bif h with h | h <;> first | exact hT _ h | exact hF _ h)
    · cases h
  · split at h
    · split at h <;> (rcases ex_bif h with h | h <;> first | exact hT _ h | exact hF _ h)
    · cases h
  · cases h
theorem ex_jdk {r : Nat} {st : List Value} {K : List Value → Option PO} {o : PO} {P : Prop} (h : jdkF r st K = some o) (hK : ∀ t, K t = some o → P) : P := by
  unfold jdkF at h
  split at h <;> first
    | (cases h; done)
    | (split at h <;> first | exact hK _ h | (cases h; done) | (rcases ex_bif h with h | h <;> first | exact hK _ h | (cases h; done) | (rcases ex_bif h with h | h <;> first | exact hK _ h | (cases h; done))))
theorem ex_gf {σ : PS} {a k kd : Nat} {K : Value → Option PO} {o : PO} {P : Prop} (h : gfF ini σ a k kd K = some o) (hK : ∀ t, K t = some o → P) : P := by
  unfold gfF at h
  split at h <;> first | exact hK _ h | (rcases ex_bif h with h | h <;> first | exact hK _ h | (cases h; done))
theorem ex_pf {σ : PS} {a k kd : Nat} {w : Value} {K : PS → Option PO} {o : PO} {P : Prop} (h : pfF ini σ a k kd w K = some o) (hK : ∀ σ', K σ' = some o → leX ini (XX σ) (XX σ') → P) : P := by
  unfold pfF at h
  split at h <;> (split at h <;> first | exact hK _ h leX_rfl | (cases h; done) | (rcases ex_bif h with h | h <;> first | exact hK _ h leX_rfl | (cases h; done)))
theorem ex_ld {σ : PS} {kd : Nat} {st : List Value} {K : List Value → Option PO} {o : PO} {P : Prop} (h : ldF ini σ kd st K = some o) (hK : ∀ t, K t = some o → P) : P := by
  unfold ldF at h
  split at h
  · rcases ex_bif h with h | h
    · rcases ex_bif h with h | h
      · exact hK _ h
      · cases h
    · cases h
  · cases h
theorem ex_st {σ : PS} {kd : Nat} {st : List Value} {K : List Value → PS → Option PO} {o : PO} {P : Prop} (h : stF ini σ kd st K = some o) (hK : ∀ t σ', K t σ' = some o → leX ini (XX σ) (XX σ') → P) : P := by
  unfold stF at h
  split at h
  · rcases ex_bif h with h | h
    · rcases ex_bif h with h | h
      · rcases ex_bif h with h | h
        · rcases ex_bif h with h | h
          · exact hK _ _ h leX_rfl
          · cases h
        · exact hK _ _ h leX_rfl
      · cases h
    · cases h
  · rcases ex_bif h with h | h
    · rcases ex_bif h with h | h
      · exact hK _ _ h leX_rfl
      · cases h
    · cases h
  · cases h
end SG
theorem ex_cl {ini : Bool} {rc : Nat → Nat → List (Option Value) → List Value → PS → Option PO} {rk rj : Nat → List (Option Value) → List Value → PS → Option PO} {d k nx r1 r2 : Nat} {ls : List (Option Value)} {st : List Value} {σ : PS} {o : PO} (h : clF ini rc rk rj d k nx r1 r2 ls st σ = some o)
    (hc : ∀ d' la o', rc d' r1 la [] σ = some o' → leX ini (XX σ) (oX o')) (hk : ∀ t, rk nx ls t σ = some o → leX ini (XX σ) (oX o)) (hj : ∀ pc ls' t σ', rj pc ls' t σ' = some o → leX ini (XX σ') (oX o)) : leX ini (XX σ) (oX o) := by
  unfold clF at h
  rcases ex_bif h with h | h
  · exact ex_jdk h hk
  · split at h
    · cases h
    · split at h
      · cases h
      · rename_i la t d'
        unfold bkF at h
        split at h
        · cases h
        · rename_i σ' e; exact leX_tr (hc _ _ _ e) (hj _ _ _ _ h)
        · rename_i w σ' e; exact leX_tr (hc _ _ _ e) (hj _ _ _ _ h)
        · rename_i E σ' e
          split at h
          · cases h; exact hc _ _ _ e
          · exact leX_tr (hc _ _ _ e) (hj _ _ _ _ h)
theorem ex_thr {ini : Bool} {σ : PS} {E : Nat} {st : List Value} {o : PO} (h : (bif ini then none else match st with | [] => some (.inr (E, thF σ)) | _ => none) = some o) : leX ini (XX σ) (oX o) := by
  cases ini
  · cases st
    · cases h; exact ⟨Nat.le_succ _, Nat.le_add_right _ _, fun q => by cases q⟩
    · cases h
  · cases h
set_option maxHeartbeats 4000000 in
theorem run_leX (ini : Bool) : ∀ (n d k pc : Nat) (ls : List (Option Value)) (st : List Value) (σ : PS) (o : PO), run ini n d k pc ls st σ = some o → leX ini (XX σ) (oX o) := by
  intro n
  induction n with
  | zero => intro d k pc ls st σ o h; cases h
  | succ n ih =>
    intro d k pc ls st σ o h
    unfold run stepF at h
    generalize fe k pc = q at h
    obtain ⟨i, nx, r1, r2, r3, v⟩ := q
    dsimp only at h
    rcases ex_bif h with h | h
    · cases h
    cases i <;> dsimp only at h <;> first
      | exact ih _ _ _ _ _ _ _ h
      | exact ex_ar h fun t ht => ih _ _ _ _ _ _ _ ht
      | exact ex_br h (fun t ht => ih _ _ _ _ _ _ _ ht) (fun t ht => ih _ _ _ _ _ _ _ ht)
      | exact ex_ld h fun t ht => ih _ _ _ _ _ _ _ ht
      | exact ex_st h fun t σ' ht hx => leX_tr hx (ih _ _ _ _ _ _ _ ht)
      | exact ex_cl h (fun d' la o' ho => ih _ _ _ _ _ _ _ ho) (fun t ht => ih _ _ _ _ _ _ _ ht) (fun pc' ls' t σ' ht => ih _ _ _ _ _ _ _ ht)
      | (split at h <;> first | exact ih _ _ _ _ _ _ _ h | (cases h; done) | (cases h; exact leX_rfl) | (split at h <;> first | exact ih _ _ _ _ _ _ _ h | (cases h; done)))
      | (split at h <;> first | (cases h; done) | (rcases ex_bif h with h | h <;> first | exact ih _ _ _ _ _ _ _ h | (cases h; done) | (cases h; exact leX_rfl) | exact ex_gf h (fun t ht => ih _ _ _ _ _ _ _ ht) | exact ex_pf h (fun σ' ht hx => leX_tr hx (ih _ _ _ _ _ _ _ ht)) | (rcases ex_bif h with h | h <;> first | (cases h; done) | (cases h; exact leX_rfl))))
      | (rcases ex_bif h with h | h
         · exact ex_thr h
         · exact ex_nw h (fun q σ' ht hx => leX_tr hx (ih _ _ _ _ _ _ _ ht)))
      | (split at h
         · exact ex_na h (fun q σ' ht hx => leX_tr hx (ih _ _ _ _ _ _ _ ht))
         · cases h)
