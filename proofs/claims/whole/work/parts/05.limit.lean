/-! THE RUN's LIMIT: Run is run with enough fuel; it is a fixed point of the step -/
def fl_ok (F : (Nat → Prop) → Prop) : Prop := (∀ p : Nat → Prop, (∀ n, p n) → F p) ∧ (∀ p q : Nat → Prop, F p → F q → F (fun n => p n ∧ q n)) ∧ (∀ p q : Nat → Prop, (∀ n, p n → q n) → F p → F q)
def fl_lim (F : (Nat → Prop) → Prop) (a : Option PO) (b : Nat → Option PO) : Prop := ∀ o, a = some o → F (fun n => b n = some o)
theorem fl_none {F : (Nat → Prop) → Prop} {b : Nat → Option PO} : fl_lim F none b := fun _ h => by cases h
theorem fl_same {F : (Nat → Prop) → Prop} (hF : fl_ok F) {a : Option PO} : fl_lim F a (fun _ => a) := fun _ h => hF.1 _ (fun _ => h)
theorem fl_bk {F : (Nat → Prop) → Prop} (hF : fl_ok F) {rk : Nat → List (Option Value) → List Value → PS → Option PO} {rkn : Nat → Nat → List (Option Value) → List Value → PS → Option PO}
    (hk : ∀ pc ls st σ, fl_lim F (rk pc ls st σ) (fun n => rkn n pc ls st σ)) {k nx : Nat} {ls : List (Option Value)} {t : List Value} {a : Option PO} {b : Nat → Option PO} (h : fl_lim F a b) :
    fl_lim F (bkF rk k nx ls t a) (fun n => bkF (rkn n) k nx ls t (b n)) := by
  intro o ho
  cases a with
  | none => cases ho
  | some r =>
    have h1 := h r rfl
    have key : fl_lim F (bkF rk k nx ls t (some r)) (fun n => bkF (rkn n) k nx ls t (some r)) := by
      rcases r with ⟨_ | w, σ⟩ | ⟨E, σ⟩
      · exact hk _ _ _ _
      · exact hk _ _ _ _
      · unfold bkF
        dsimp only
        cases hnd k E with
        | zero => exact fl_same hF
        | succ z => exact hk _ _ _ _
    exact hF.2.2 _ _ (fun n hn => by dsimp only at hn ⊢; rw [hn.1]; exact hn.2) (hF.2.1 _ _ h1 (key o ho))
theorem fl_if {F : (Nat → Prop) → Prop} {c : Prop} {h : Decidable c} {a a' : Option PO} {b b' : Nat → Option PO} (h1 : fl_lim F a b) (h2 : fl_lim F a' b') : fl_lim F (@ite _ c h a a') (fun n => @ite _ c h (b n) (b' n)) := by
  by_cases hc : c
  · simp only [if_pos hc]; exact h1
  · simp only [if_neg hc]; exact h2
theorem fl_bif {F : (Nat → Prop) → Prop} {c : Bool} {a a' : Option PO} {b b' : Nat → Option PO} (h1 : fl_lim F a b) (h2 : fl_lim F a' b') : fl_lim F (bif c then a else a') (fun n => bif c then b n else b' n) := by
  cases c
  · exact h2
  · exact h1
set_option maxHeartbeats 4000000 in
theorem fl_ar {F : (Nat → Prop) → Prop} {i : Instr} {v : Value} {st : List Value} {K : List Value → Option PO} {Kn : Nat → List Value → Option PO} (hK : ∀ t, fl_lim F (K t) (fun n => Kn n t)) : fl_lim F (arF i v st K) (fun n => arF i v st (Kn n)) := by
  unfold arF
  cases i <;> (try dsimp only) <;> first
    | exact fl_none
    | exact hK _
    | (rcases st with _ | ⟨w, t⟩ <;> (try dsimp only) <;> first | exact fl_none | (rcases w with w | w | w | w | _ | w | w <;> (try dsimp only) <;> first | exact fl_none | exact hK _ | (rcases t with _ | ⟨w2, t⟩ <;> (try dsimp only) <;> first | exact fl_none | (rcases w2 with w2 | w2 | w2 | w2 | _ | w2 | w2 <;> (try dsimp only) <;> first | exact fl_none | exact hK _ | exact fl_bif fl_none (hK _)))))
theorem fl_br {F : (Nat → Prop) → Prop} {i : Instr} {st : List Value} {K K' : List Value → Option PO} {Kn Kn' : Nat → List Value → Option PO} (hK : ∀ t, fl_lim F (K t) (fun n => Kn n t)) (hK' : ∀ t, fl_lim F (K' t) (fun n => Kn' n t)) : fl_lim F (brF i st K K') (fun n => brF i st (Kn n) (Kn' n)) := by
  unfold brF
  cases i <;> (try dsimp only) <;> first
    | exact fl_none
    | (rename_i c _; rcases st with _ | ⟨w, t⟩ <;> (try dsimp only) <;> first | exact fl_none | (rcases w with w | w | w | w | _ | w | w <;> (try dsimp only) <;> first | exact fl_none | (cases c <;> (try dsimp only) <;> first | exact fl_bif (hK _) (hK' _) | exact fl_bif (hK' _) (hK _)) | (rcases t with _ | ⟨w2, t⟩ <;> (try dsimp only) <;> first | exact fl_none | (rcases w2 with w2 | w2 | w2 | w2 | _ | w2 | w2 <;> (try dsimp only) <;> first | exact fl_none | (cases c <;> (try dsimp only) <;> first | exact fl_bif (hK _) (hK' _) | exact fl_bif (hK' _) (hK _))))))
theorem fl_jdk {F : (Nat → Prop) → Prop} {r : Nat} {st : List Value} {K : List Value → Option PO} {Kn : Nat → List Value → Option PO} (hK : ∀ t, fl_lim F (K t) (fun n => Kn n t)) : fl_lim F (jdkF r st K) (fun n => jdkF r st (Kn n)) := by
  unfold jdkF
  split <;> first
    | exact fl_none
    | (rcases st with _ | ⟨w, t⟩ <;> (try dsimp only) <;> first | exact fl_none | (rcases w with w | w | w | w | _ | w | w <;> (try dsimp only) <;> first | exact fl_none | exact hK _ | exact fl_bif (hK _) fl_none | exact fl_bif (fl_bif (hK _) fl_none) fl_none | (rcases t with _ | ⟨w2, t⟩ <;> (try dsimp only) <;> first | exact fl_none | (rcases w2 with w2 | w2 | w2 | w2 | _ | w2 | w2 <;> (try dsimp only) <;> first | exact fl_none | exact hK _ | exact fl_bif (hK _) fl_none | exact fl_bif (fl_bif (hK _) fl_none) fl_none))))
theorem fl_gf {F : (Nat → Prop) → Prop} {ini : Bool} {σ : PS} {o k kd : Nat} {K : Value → Option PO} {Kn : Nat → Value → Option PO} (hK : ∀ t, fl_lim F (K t) (fun n => Kn n t)) : fl_lim F (gfF ini σ o k kd K) (fun n => gfF ini σ o k kd (Kn n)) := by
  unfold gfF
  split <;> first | exact hK _ | exact fl_bif (hK _) fl_none
theorem fl_pf {F : (Nat → Prop) → Prop} {ini : Bool} {σ : PS} {o k kd : Nat} {v : Value} {K : PS → Option PO} {Kn : Nat → PS → Option PO} (hK : ∀ t, fl_lim F (K t) (fun n => Kn n t)) : fl_lim F (pfF ini σ o k kd v K) (fun n => pfF ini σ o k kd v (Kn n)) := by
  unfold pfF
  split <;> (rcases v with w | w | w | w | _ | w | w <;> (try dsimp only) <;> first | exact fl_none | exact hK _ | exact fl_bif (hK _) fl_none)
theorem fl_ld {F : (Nat → Prop) → Prop} {ini : Bool} {σ : PS} {kd : Nat} {st : List Value} {K : List Value → Option PO} {Kn : Nat → List Value → Option PO} (hK : ∀ t, fl_lim F (K t) (fun n => Kn n t)) : fl_lim F (ldF ini σ kd st K) (fun n => ldF ini σ kd st (Kn n)) := by
  unfold ldF
  split
  · exact fl_bif (fl_bif (hK _) fl_none) fl_none
  · exact fl_none
theorem fl_st {F : (Nat → Prop) → Prop} {ini : Bool} {σ : PS} {kd : Nat} {st : List Value} {K : List Value → PS → Option PO} {Kn : Nat → List Value → PS → Option PO} (hK : ∀ t σ, fl_lim F (K t σ) (fun n => Kn n t σ)) : fl_lim F (stF ini σ kd st K) (fun n => stF ini σ kd st (Kn n)) := by
  unfold stF
  split
  · exact fl_bif (fl_bif (fl_bif (fl_bif (hK _ _) fl_none) (hK _ _)) fl_none) fl_none
  · exact fl_bif (fl_bif (hK _ _) fl_none) fl_none
  · exact fl_none
theorem fl_cl {F : (Nat → Prop) → Prop} (hF : fl_ok F) {ini : Bool} {rc : Nat → Nat → List (Option Value) → List Value → PS → Option PO} {rcn : Nat → Nat → Nat → List (Option Value) → List Value → PS → Option PO} {rk rj : Nat → List (Option Value) → List Value → PS → Option PO} {rkn rjn : Nat → Nat → List (Option Value) → List Value → PS → Option PO}
    (hc : ∀ d k ls st σ, fl_lim F (rc d k ls st σ) (fun n => rcn n d k ls st σ)) (hk : ∀ pc ls st σ, fl_lim F (rk pc ls st σ) (fun n => rkn n pc ls st σ)) (hj : ∀ pc ls st σ, fl_lim F (rj pc ls st σ) (fun n => rjn n pc ls st σ)) {d k nx r1 r2 : Nat} {ls : List (Option Value)} {st : List Value} {σ : PS} :
    fl_lim F (clF ini rc rk rj d k nx r1 r2 ls st σ) (fun n => clF ini (rcn n) (rkn n) (rjn n) d k nx r1 r2 ls st σ) := by
  unfold clF
  refine fl_bif (fl_jdk fun t => hk _ _ _ _) ?_
  cases cpF ini σ r2 st with
  | none => exact fl_none
  | some z =>
    obtain ⟨la, t⟩ := z
    cases d with
    | zero => exact fl_none
    | succ d' => exact fl_bk hF hj (hc _ _ _ _ _)
set_option maxHeartbeats 4000000 in
theorem fl_step {F : (Nat → Prop) → Prop} (hF : fl_ok F) {ini : Bool} {rc : Nat → Nat → List (Option Value) → List Value → PS → Option PO} {rcn : Nat → Nat → Nat → List (Option Value) → List Value → PS → Option PO} {rk rj : Nat → List (Option Value) → List Value → PS → Option PO} {rkn rjn : Nat → Nat → List (Option Value) → List Value → PS → Option PO}
    (hc : ∀ d k ls st σ, fl_lim F (rc d k ls st σ) (fun n => rcn n d k ls st σ)) (hk : ∀ pc ls st σ, fl_lim F (rk pc ls st σ) (fun n => rkn n pc ls st σ)) (hj : ∀ pc ls st σ, fl_lim F (rj pc ls st σ) (fun n => rjn n pc ls st σ)) {d k pc : Nat} {ls : List (Option Value)} {st : List Value} {σ : PS} :
    fl_lim F (stepF ini rc rk rj d k pc ls st σ) (fun n => stepF ini (rcn n) (rkn n) (rjn n) d k pc ls st σ) := by
  unfold stepF
  generalize fe k pc = q
  obtain ⟨i, nx, r1, r2, r3, v⟩ := q
  dsimp only
  refine fl_bif fl_none ?_
  cases i <;> (try dsimp only) <;> first
    | exact hk _ _ _ _
    | exact fl_cl hF hc hk hj
    | exact fl_ar fun t => hk _ _ _ _
    | exact fl_br (fun t => hk _ _ _ _) (fun t => hk _ _ _ _)
    | exact fl_ld fun t => hk _ _ _ _
    | exact fl_st fun t σ => hk _ _ _ _
    | (generalize lget ls r1 = z; rcases z with _ | (z | z | z | z | _ | z | z) <;> (try dsimp only) <;> first | exact fl_none | exact hk _ _ _ _ | (rcases v with z | z | z | z | _ | z | z <;> (try dsimp only) <;> first | exact fl_none | exact hk _ _ _ _))
    | (rcases st with _ | ⟨w, t⟩ <;> (try dsimp only) <;> first | exact fl_none | exact fl_same hF)
    | (rcases st with _ | ⟨w, t⟩ <;> (try dsimp only) <;> first | exact fl_none | (rcases w with w | w | w | w | _ | w | w <;> (try dsimp only) <;> first | exact fl_none | exact hk _ _ _ _ | exact hj _ _ _ _ | exact fl_bif fl_none (hk _ _ _ _) | exact fl_bif (fl_gf fun w => hk _ _ _ _) fl_none | (refine fl_bif ?_ fl_none; exact hk _ _ _ _) | (unfold naF; exact fl_bif (hk _ _ _ _) fl_none)))
    | (rcases st with _ | ⟨w, _ | ⟨w2, t⟩⟩ <;> (try dsimp only) <;> first | exact fl_none | (rcases w2 with w2 | w2 | w2 | w2 | _ | w2 | w2 <;> (try dsimp only) <;> first | exact fl_none | exact fl_bif (fl_pf fun w => hk _ _ _ _) fl_none))
    | (unfold nwF; refine fl_bif (fl_bif fl_none ?_) (fl_bif (hk _ _ _ _) fl_none); rcases st with _ | ⟨w, t⟩ <;> (try dsimp only) <;> first | exact fl_none | exact fl_same hF)
    | (rcases st with _ | ⟨w, _ | ⟨w2, t⟩⟩ <;> (try dsimp only) <;> first | exact fl_none | (rcases w with w | w | w | w | _ | w | w <;> (try dsimp only) <;> first | exact fl_none | exact fl_same hF | exact fl_bif (fl_same hF) (fl_bif (fl_same hF) fl_none)))
    | skip
theorem fl_all : fl_ok (fun p => ∀ n, p n) := ⟨fun _ h => h, fun _ _ h1 h2 n => ⟨h1 n, h2 n⟩, fun _ _ h h1 n => h n (h1 n)⟩
theorem fl_late : fl_ok (fun p => ∃ m : Nat, ∀ n, m ≤ n → p n) := ⟨fun _ h => ⟨0, fun n _ => h n⟩, fun _ _ ⟨a, h1⟩ ⟨b, h2⟩ => ⟨max a b, fun n hn => ⟨h1 n (by omega), h2 n (by omega)⟩⟩, fun _ _ h ⟨a, h1⟩ => ⟨a, fun n hn => h n (h1 n hn)⟩⟩
theorem run_up (ini : Bool) : ∀ (n m d k pc : Nat) (ls : List (Option Value)) (st : List Value) (σ : PS) (o : PO), n ≤ m → run ini n d k pc ls st σ = some o → run ini m d k pc ls st σ = some o := by
  intro n
  induction n with
  | zero => intro m d k pc ls st σ o _ h; cases h
  | succ n ih =>
    intro m d k pc ls st σ o hm h
    obtain ⟨m', rfl⟩ : ∃ z, m = z + 1 := ⟨m - 1, by omega⟩
    exact fl_step fl_all (rcn := fun _ d' k' la st' σ' => run ini m' d' k' 0 la st' σ') (rkn := fun _ pc' ls' st' σ' => run ini m' d k pc' ls' st' σ') (rjn := fun _ pc' ls' st' σ' => run ini m' d k pc' ls' st' σ')
      (fun d' k' ls' st' σ' o' h' _ => ih m' d' k' 0 ls' st' σ' o' (by omega) h') (fun pc' ls' st' σ' o' h' _ => ih m' d k pc' ls' st' σ' o' (by omega) h') (fun pc' ls' st' σ' o' h' _ => ih m' d k pc' ls' st' σ' o' (by omega) h') o h 0
/-- the run with as much fuel as it needs -/
noncomputable def Run (ini : Bool) (d k pc : Nat) (ls : List (Option Value)) (st : List Value) (σ : PS) : Option PO :=
  @dite _ (∃ o n, run ini n d k pc ls st σ = some o) (Classical.propDecidable _) (fun h => some h.choose) (fun _ => none)
theorem Run_iff {ini : Bool} {d k pc : Nat} {ls : List (Option Value)} {st : List Value} {σ : PS} {o : PO} : Run ini d k pc ls st σ = some o ↔ ∃ n, run ini n d k pc ls st σ = some o := by
  unfold Run
  by_cases h : ∃ o n, run ini n d k pc ls st σ = some o
  · rw [dif_pos h]
    obtain ⟨n, hn⟩ := h.choose_spec
    constructor
    · intro e
      cases e
      exact ⟨n, hn⟩
    · rintro ⟨n2, hn2⟩
      have h1 := run_up ini n (max n n2) _ _ _ _ _ _ _ (by omega) hn
      have h2 := run_up ini n2 (max n n2) _ _ _ _ _ _ _ (by omega) hn2
      rw [h1] at h2
      exact h2
  · rw [dif_neg h]
    exact ⟨fun e => (by cases e), fun ⟨n, hn⟩ => absurd ⟨o, n, hn⟩ h⟩
/-- the fixed point -/
theorem Run_eq (ini : Bool) (d k pc : Nat) (ls : List (Option Value)) (st : List Value) (σ : PS) : Run ini d k pc ls st σ = stepF ini (fun d' k' la st' σ' => Run ini d' k' 0 la st' σ') (fun pc' ls' st' σ' => Run ini d k pc' ls' st' σ') (fun pc' ls' st' σ' => Run ini d k pc' ls' st' σ') d k pc ls st σ := by
  have e : ∀ o, Run ini d k pc ls st σ = some o ↔ stepF ini (fun d' k' la st' σ' => Run ini d' k' 0 la st' σ') (fun pc' ls' st' σ' => Run ini d k pc' ls' st' σ') (fun pc' ls' st' σ' => Run ini d k pc' ls' st' σ') d k pc ls st σ = some o := by
    intro o
    constructor
    · intro h
      obtain ⟨n, hn⟩ := Run_iff.mp h
      cases n with
      | zero => cases hn
      | succ n =>
        exact fl_step fl_all (rcn := fun _ d' k' la st' σ' => Run ini d' k' 0 la st' σ') (rkn := fun _ pc' ls' st' σ' => Run ini d k pc' ls' st' σ') (rjn := fun _ pc' ls' st' σ' => Run ini d k pc' ls' st' σ')
          (fun d' k' ls' st' σ' o' h' _ => Run_iff.mpr ⟨n, h'⟩) (fun pc' ls' st' σ' o' h' _ => Run_iff.mpr ⟨n, h'⟩) (fun pc' ls' st' σ' o' h' _ => Run_iff.mpr ⟨n, h'⟩) o hn 0
    · intro h
      obtain ⟨n, hn⟩ := fl_step fl_late (rcn := fun n d' k' la st' σ' => run ini n d' k' 0 la st' σ') (rkn := fun n pc' ls' st' σ' => run ini n d k pc' ls' st' σ') (rjn := fun n pc' ls' st' σ' => run ini n d k pc' ls' st' σ')
          (fun d' k' ls' st' σ' o' h' => by obtain ⟨n, hn⟩ := Run_iff.mp h'; exact ⟨n, fun m hm => run_up ini n m _ _ _ _ _ _ _ hm hn⟩) (fun pc' ls' st' σ' o' h' => by obtain ⟨n, hn⟩ := Run_iff.mp h'; exact ⟨n, fun m hm => run_up ini n m _ _ _ _ _ _ _ hm hn⟩) (fun pc' ls' st' σ' o' h' => by obtain ⟨n, hn⟩ := Run_iff.mp h'; exact ⟨n, fun m hm => run_up ini n m _ _ _ _ _ _ _ hm hn⟩) o h
      exact Run_iff.mpr ⟨n + 1, hn n (Nat.le_refl n)⟩
  cases h : stepF ini (fun d' k' la st' σ' => Run ini d' k' 0 la st' σ') (fun pc' ls' st' σ' => Run ini d k pc' ls' st' σ') (fun pc' ls' st' σ' => Run ini d k pc' ls' st' σ') d k pc ls st σ with
  | none =>
    cases h2 : Run ini d k pc ls st σ with
    | none => rfl
    | some o => rw [(e o).mp h2] at h; cases h
  | some o => exact (e o).mpr h
/-- many steps at once, till a place of sp: the calls stay closed -/
noncomputable def stp (ini : Bool) (sp : List Nat) : Nat → Nat → Nat → Nat → List (Option Value) → List Value → PS → Option PO
  | 0, d, k, pc, ls, st, σ => Run ini d k pc ls st σ
  | n + 1, d, k, pc, ls, st, σ => bif sp.any (Nat.beq pc) then Run ini d k pc ls st σ else stepF ini (fun d' k' la st' σ' => Run ini d' k' 0 la st' σ') (fun pc' ls' st' σ' => stp ini sp n d k pc' ls' st' σ') (fun pc' ls' st' σ' => Run ini d k pc' ls' st' σ') d k pc ls st σ
theorem stp_eq (ini : Bool) (sp : List Nat) : ∀ (n d k pc : Nat) (ls : List (Option Value)) (st : List Value) (σ : PS), stp ini sp n d k pc ls st σ = Run ini d k pc ls st σ := by
  intro n
  induction n with
  | zero => intro d k pc ls st σ; rfl
  | succ n ih =>
    intro d k pc ls st σ
    unfold stp
    cases sp.any (Nat.beq pc) with
    | true => rfl
    | false =>
      dsimp only [cond]
      rw [Run_eq]
      congr 1
      funext a b c e
      exact ih d k a b c e
theorem Run_go (sp : List Nat) (n : Nat) {ini : Bool} {d k pc : Nat} {ls : List (Option Value)} {st : List Value} {σ : PS} : Run ini d k pc ls st σ = stepF ini (fun d' k' la st' σ' => Run ini d' k' 0 la st' σ') (fun pc' ls' st' σ' => stp ini sp n d k pc' ls' st' σ') (fun pc' ls' st' σ' => Run ini d k pc' ls' st' σ') d k pc ls st σ := by
  rw [Run_eq]
  congr 1
  funext a b c e
  exact (stp_eq ini sp n d k a b c e).symm
