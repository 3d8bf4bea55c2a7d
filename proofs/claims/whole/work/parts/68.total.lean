/-! THE PURE PROOFS: both sides read every text alike -/
noncomputable def fP (o : Nat) : Nat → PS → Option PO := fun d σ => Run false d 148 0 [some (.ref 12), some (.int (nI o)), none, none] [] σ
noncomputable def fB (o : Nat) : Nat → PS → Option PO := fun d σ => Run false d 152 0 [some (.ref 12), some (.int (nI o)), none] [] σ
noncomputable def gP : Nat → PS → Option PO := fun d σ => Run false d 186 0 [some (.ref 85), none] [] σ
noncomputable def gB : Nat → PS → Option PO := fun d σ => Run false d 189 0 [some (.ref 85)] [] σ
def dU (o : Nat) : Nat := 4 * (8 - o) + 6
def PRp (N q : Nat) (r : RS) : Prop := RP N q r ∧ ∀ q' cs, r = Sum.inl (q', cs) → q < q'
def Sm (B : Nat → Nat) (N : Nat) (f g : Nat → PS → Option PO) (D o q b : Nat) (to : List Bool → List Bool) : Prop := ∃ r, CSim B N f D q r ∧ MSim B N g D o q r ∧ PRp N q r ∧ TY b id to r
def fa (t : List Bool) : List Bool := false :: t
def tr (t : List Bool) : List Bool := true :: t
def LPm (B : Nat → Nat) (N o q : Nat) : Prop := ∃ r, CL148 B N o (dU o) q r ∧ ML186 B N o (dU o) q r ∧ RP N q r ∧ TY (3 * o + 4) fa fa r
def LSm (B : Nat → Nat) (N o q : Nat) : Prop := ∃ r, CL147 B N o (dU o + 1) q r ∧ ML187 B N o (dU o + 1) q r ∧ RP N q r ∧ TY (3 * o + 3) fa fa r
def LBt (B : Nat → Nat) (N o q : Nat) : Prop := ∃ r, CL152 B N o (dU o + 3) q r ∧ ML189 B N o (dU o + 3) q r ∧ RP N q r ∧ TY (3 * o + 1) tr tr r
def LEi (B : Nat → Nat) (N o q : Nat) : Prop := ∃ r, CL151 B N o (dU o + 4) q r ∧ ML188 B N o (dU o + 4) q r ∧ RP N q r ∧ TY (3 * o) tr tr r
def AllS (B : Nat → Nat) (N o q : Nat) : Prop := Sm B N (fU o) gU (dU o) o q (3 * o + 5) fa ∧ Sm B N (fP o) gP (dU o + 1) o q (3 * o + 4) fa ∧ Sm B N (fS o) gS (dU o + 2) o q (3 * o + 3) fa ∧ LPm B N o q ∧ LSm B N o q ∧ Sm B N (fT o) gT (dU o + 3) o q (3 * o + 2) tr ∧ Sm B N (fB o) gB (dU o + 4) o q (3 * o + 1) tr ∧ Sm B N (fE o) gE (dU o + 5) o q (3 * o) tr ∧ LBt B N o q ∧ LEi B N o q
section TT
variable {B : Nat → Nat} {N q o D D' : Nat} {f g : Nat → PS → Option PO} {r r1 r2 : RS}
theorem cs_mono (h : CSim B N f D q r) (hd : D ≤ D') : CSim B N f D' q r := fun d L u σ h1 h2 h3 h4 => h d L u σ (by omega) h2 h3 h4
theorem ms_mono (h : MSim B N g D o q r) (hd : D ≤ D') : MSim B N g D' o q r := fun d rr s σ h1 h2 h3 => h d rr s σ (by omega) h2 h3
theorem ty_push {t : List Bool} {c : CD} (h1 : c.1 ≤ 5) (h2 : c.2 ≤ 9999) (ht : t.length ≤ 59) : tyA t [c] = some (fa t) := by
  have : tyC t c = some (false :: t) := by unfold tyC; rw [if_pos h1, if_pos ⟨ht, h2⟩]
  unfold tyA
  rw [this]; rfl
theorem ty_two {t : List Bool} {w : Nat} (h : 6 ≤ w ∧ w ≤ 11) : tyA (fa (fa t)) [(w, 0)] = some (fa t) := by
  have : tyC (fa (fa t)) (w, 0) = some (fa t) := by
    unfold tyC
    rw [if_neg (show ¬ (w, 0).1 ≤ 5 by show ¬ w ≤ 5; omega), if_pos (show (w, 0).1 ≤ 11 from h.2)]
    rfl
  unfold tyA
  rw [this]; rfl
theorem ty_cmp {t : List Bool} {w : Nat} (h : 12 ≤ w ∧ w ≤ 14) : tyA (fa (fa t)) [(w, 0)] = some (tr t) := by
  have : tyC (fa (fa t)) (w, 0) = some (tr t) := by
    unfold tyC
    rw [if_neg (show ¬ (w, 0).1 ≤ 5 by show ¬ w ≤ 5; omega), if_neg (show ¬ (w, 0).1 ≤ 11 by show ¬ w ≤ 11; omega), if_pos (show (w, 0).1 ≤ 14 from h.2)]
    rfl
  unfold tyA
  rw [this]; rfl
theorem ty_log {t : List Bool} {w : Nat} (h : w = 15 ∨ w = 16) : tyA (tr (tr t)) [(w, 0)] = some (tr t) := by
  rcases h with rfl | rfl <;> rfl
theorem ty_not {t : List Bool} : tyA (tr t) [(17, 0)] = some (tr t) := rfl
theorem tyA_two {t t1 t2 : List Bool} {c1 c2 : List CD} (h1 : tyA t c1 = some t1) (h2 : tyA t1 c2 = some t2) : tyA t (c1 ++ c2) = some t2 := by rw [tyA_app c1 h1]; exact h2
theorem fa_len {t : List Bool} : (fa t).length = t.length + 1 := rfl
theorem tr_len {t : List Bool} : (tr t).length = t.length + 1 := rfl
/-- something in brackets -/
theorem br_ok {op cl b b' : Nat} {to : List Bool → List Bool} (hq : q ≤ N) (hop : op ≠ 301) (hcl : cl ≠ 301) (hb : b ≤ b') (h : tkN B N q = op → o < 8 → PRp N (nxN B N q) r1 ∧ TY b' id to r1) : PRp N q (brR B N o q op cl r1) ∧ TY b id to (brR B N o q op cl r1) := by
  unfold brR
  by_cases w : tkN B N q = op ∧ o < 8
  · rw [if_pos w]
    obtain ⟨h1, h2⟩ := h w.1 w.2
    obtain ⟨hq1, n1, n2⟩ := tk_nx w.1 hop
    rcases r1 with ⟨q1, cs⟩ | ⟨k, p⟩
    · obtain ⟨⟨a, b⟩, c⟩ := h1
      show PRp N q (if tkN B N q1 = cl then rok (nxN B N q1) cs else rbad 1 q1) ∧ TY _ id to (if tkN B N q1 = cl then rok (nxN B N q1) cs else rbad 1 q1)
      by_cases v : tkN B N q1 = cl
      · rw [if_pos v]
        obtain ⟨hq2, m1, m2⟩ := tk_nx v hcl
        refine ⟨⟨⟨m2, by omega⟩, fun q' cs' e => ?_⟩, fun t ht => h2 t (by omega)⟩
        injection e with e
        injection e with e1 e2
        omega
      · rw [if_neg v]
        exact ⟨⟨⟨by decide, by decide, a⟩, fun q' cs' e => by cases e⟩, trivial⟩
    · obtain ⟨⟨a, b, c⟩, d⟩ := h1
      exact ⟨⟨⟨a, b, c⟩, fun q' cs' e => by cases e⟩, trivial⟩
  · rw [if_neg w]
    refine ⟨⟨⟨?_, ?_, hq⟩, fun q' cs' e => by cases e⟩, trivial⟩
    · show 1 ≤ if tkN B N q = op then 3 else 1
      split <;> decide
    · show (if tkN B N q = op then 3 else 1) ≤ 3
      split <;> decide
theorem pr_ok {w b : Nat} (hq : q ≤ N) (hw : w = 10 ∨ w = 11) (h1 : tkN B N q = 40 → o < 8 → PRp N (nxN B N q) r1 ∧ TY (b + 1) id fa r1) (h2 : ∀ q1 c1, tkN B N q = 40 → o < 8 → r1 = Sum.inl (q1, c1) → tkN B N q1 = 44 → PRp N (nxN B N q1) r2 ∧ TY (b + 1) id fa r2) : PRp N q (prR B N o q w r1 r2) ∧ TY b id fa (prR B N o q w r1 r2) := by
  unfold prR
  by_cases v : tkN B N q = 40 ∧ o < 8
  · rw [if_pos v]
    obtain ⟨x1, x2⟩ := h1 v.1 v.2
    obtain ⟨hq1, n1, n2⟩ := tk_nx v.1 (by decide)
    rcases r1 with ⟨q1, c1⟩ | ⟨k, p⟩
    · obtain ⟨⟨a, b1⟩, c⟩ := x1
      show PRp N q (if tkN B N q1 = 44 then _ else rbad 1 q1) ∧ TY _ id fa (if tkN B N q1 = 44 then _ else rbad 1 q1)
      by_cases v2 : tkN B N q1 = 44
      · rw [if_pos v2]
        obtain ⟨y1, y2⟩ := h2 q1 c1 v.1 v.2 rfl v2
        obtain ⟨hq2, m1, m2⟩ := tk_nx v2 (by decide)
        rcases r2 with ⟨q2, c2⟩ | ⟨k, p⟩
        · obtain ⟨⟨d1, d2⟩, d3⟩ := y1
          show PRp N q (if tkN B N q2 = 41 then rok (nxN B N q2) (c1 ++ (c2 ++ [(w, 0)])) else rbad 1 q2) ∧ TY _ id fa (if tkN B N q2 = 41 then rok (nxN B N q2) (c1 ++ (c2 ++ [(w, 0)])) else rbad 1 q2)
          by_cases v3 : tkN B N q2 = 41
          · rw [if_pos v3]
            obtain ⟨hq3, k1, k2⟩ := tk_nx v3 (by decide)
            refine ⟨⟨⟨k2, ?_⟩, fun q' cs' e => ?_⟩, fun t ht => ?_⟩
            · rw [List.length_append, List.length_append]
              show c1.length + (c2.length + 1) + q ≤ _
              omega
            · injection e with e
              injection e with e1 e2
              omega
            · show tyA t (c1 ++ (c2 ++ [(w, 0)])) = some (fa t)
              exact tyA_two (x2 t (by omega)) (tyA_two (y2 (fa t) (by rw [fa_len]; omega)) (ty_two (by omega)))
          · rw [if_neg v3]
            exact ⟨⟨⟨by decide, by decide, d1⟩, fun q' cs' e => by cases e⟩, trivial⟩
        · obtain ⟨⟨a, b, c⟩, d⟩ := y1
          exact ⟨⟨⟨a, b, c⟩, fun q' cs' e => by cases e⟩, trivial⟩
      · rw [if_neg v2]
        exact ⟨⟨⟨by decide, by decide, a⟩, fun q' cs' e => by cases e⟩, trivial⟩
    · obtain ⟨⟨a, b, c⟩, d⟩ := x1
      exact ⟨⟨⟨a, b, c⟩, fun q' cs' e => by cases e⟩, trivial⟩
  · rw [if_neg v]
    refine ⟨⟨⟨?_, ?_, hq⟩, fun q' cs' e => by cases e⟩, trivial⟩
    · show 1 ≤ if tkN B N q = 40 then 3 else 1
      split <;> decide
    · show (if tkN B N q = 40 then 3 else 1) ≤ 3
      split <;> decide
theorem ty_mono {b b' : Nat} {ti to : List Bool → List Bool} (h : TY b' ti to r) (hb : b ≤ b') : TY b ti to r := by
  rcases r with ⟨q', cs⟩ | ⟨k, p⟩
  · exact fun t ht => h t (by omega)
  · trivial
theorem prp_lt {q1 : Nat} (h : q < q1) (hp : PRp N q1 r) : PRp N q r := by
  obtain ⟨h1, h2⟩ := hp
  rcases r with ⟨q', cs⟩ | ⟨k, p⟩
  · obtain ⟨a, b⟩ := h1
    exact ⟨⟨a, by omega⟩, fun q'' cs' e => by have := h2 q'' cs' e; omega⟩
  · exact ⟨h1, fun q' cs' e => by cases e⟩
/-- a head and what follows -/
theorem hd_ok {q1 b b' : Nat} {c1 : List CD} {to : List Bool → List Bool} (h1 : PRp N q (rok q1 c1)) (t1 : TY b id to (rok q1 c1)) (h2 : RP N q1 r2) (hb : b ≤ b') (t2 : TY b' to to r2) : PRp N q (cmb c1 r2) ∧ TY b id to (cmb c1 r2) := by
  obtain ⟨⟨a, a2⟩, a3⟩ := h1
  have a4 := a3 q1 c1 rfl
  refine ⟨⟨rp_cmb a2 h2, fun q' cs e => ?_⟩, ty_cmb hb t1 t2⟩
  rcases r2 with ⟨q2, c2⟩ | ⟨k, p⟩
  · obtain ⟨b1, b2⟩ := h2
    injection e with e
    injection e with e1 e2
    omega
  · cases e
end TT
section TU
variable {B : Nat → Nat} {N q o : Nat}
theorem all_step (hN : N ≤ 400) (hB : ∀ j, j < N → B j ≤ 255) (hq : q ≤ N) (ho : o ≤ 8) (IH : ∀ q', q < q' → q' ≤ N → ∀ o, o ≤ 8 → AllS B N o q') : AllS B N o q := by
  have dUo : 6 ≤ dU o := by unfold dU; omega
  have dUs : o < 8 → dU (o + 1) + 4 = dU o := fun h => by unfold dU; omega
  -- units
  have hU : Sm B N (fU o) gU (dU o) o q (3 * o + 5) fa := by
    by_cases t3 : tkN B N q = 300
    · obtain ⟨hq1, n1, n2⟩ := tk_nx t3 (by decide)
      have hnv : nvN B N q ≤ 10000 := by
        unfold nvN
        split
        · exact cv_le _
        · exact Nat.zero_le _
      by_cases v : nvN B N q ≤ 9999
      · have m := uM_num (o := o) (D := dU o - 1) hN hB (by omega) t3
        rw [if_pos v, show dU o - 1 + 1 = dU o by omega] at m
        refine ⟨rok (nxN B N q) [(0, nvN B N q)], cs_mono (uC_num hN (Nat.le_refl 1) t3 v) (by omega), m, ⟨⟨n2, ?_⟩, fun q' cs e => ?_⟩, fun t ht => ty_push (t := t) (c := (0, nvN B N q)) (Nat.zero_le _) v (by omega)⟩
        · show 1 + q ≤ _; omega
        · injection e with e
          injection e with e1 e2
          omega
      · have m := uM_num (o := o) (D := dU o - 1) hN hB (by omega) t3
        rw [if_neg v, show dU o - 1 + 1 = dU o by omega] at m
        exact ⟨rbad 2 q, cs_mono (uC_big hN (Nat.le_refl 1) t3 (by omega) (by omega)) (by omega), m, ⟨⟨by decide, by decide, hq⟩, fun q' cs e => by cases e⟩, trivial⟩
    · by_cases t5 : 205 ≤ tkN B N q ∧ tkN B N q ≤ 209
      · obtain ⟨k, hk⟩ : ∃ k, tkN B N q = 200 + k := ⟨tkN B N q - 200, by omega⟩
        obtain ⟨hq1, n1, n2⟩ := tk_nx hk (by omega)
        refine ⟨rok (nxN B N q) [(k - 4, 0)], cs_mono (uC_fact hN (Nat.le_refl 1) (by omega) hk) (by omega), ms_mono (uM_fact (D := 3) hN hB (by decide) (by omega) hk) (by omega), ⟨⟨n2, ?_⟩, fun q' cs e => ?_⟩, fun t ht => ty_push (t := t) (c := (k - 4, 0)) (show k - 4 ≤ 5 by omega) (Nat.zero_le _) (by omega)⟩
        · show 1 + q ≤ _; omega
        · injection e with e
          injection e with e1 e2
          omega
      · by_cases t6 : tkN B N q = 224 ∨ tkN B N q = 225
        · obtain ⟨w, hw⟩ : ∃ w, (tkN B N q = 224 ∧ w = 10) ∨ (tkN B N q = 225 ∧ w = 11) := by
            rcases t6 with h | h
            · exact ⟨10, Or.inl ⟨h, rfl⟩⟩
            · exact ⟨11, Or.inr ⟨h, rfl⟩⟩
          obtain ⟨hq1, n1, n2⟩ := tk_nx (rfl : tkN B N q = tkN B N q) (by omega)
          by_cases v : tkN B N (nxN B N q) = 40 ∧ o < 8
          · obtain ⟨hq2, m1, m2⟩ := tk_nx v.1 (by decide)
            have dd := dUs v.2
            obtain ⟨-, -, ⟨r1, x1, x2, x3, x4⟩, -⟩ := IH (nxN B N (nxN B N q)) (by omega) m2 (o + 1) (by omega)
            -- the second
            have hr2 : ∃ r2, ∀ q1 c1, tkN B N (nxN B N q) = 40 → o < 8 → r1 = Sum.inl (q1, c1) → tkN B N q1 = 44 → CSim B N (fS (o + 1)) (dU (o + 1) + 2) (nxN B N q1) r2 ∧ MSim B N gS (dU (o + 1) + 2) (o + 1) (nxN B N q1) r2 ∧ PRp N (nxN B N q1) r2 ∧ TY (3 * (o + 1) + 3) id fa r2 := by
              rcases r1 with ⟨q1, c1⟩ | ⟨k, p⟩
              · by_cases v2 : tkN B N q1 = 44
                · obtain ⟨hq3, k1, k2⟩ := tk_nx v2 (by decide)
                  have hlt := x3.2 q1 c1 rfl
                  obtain ⟨-, -, ⟨r2, y1, y2, y3, y4⟩, -⟩ := IH (nxN B N q1) (by omega) k2 (o + 1) (by omega)
                  refine ⟨r2, fun q1' c1' _ _ e _ => ?_⟩
                  injection e with e
                  injection e with e1 e2
                  subst e1
                  exact ⟨y1, y2, y3, y4⟩
                · refine ⟨rbad 1 0, fun q1' c1' _ _ e v3 => ?_⟩
                  injection e with e
                  injection e with e1 e2
                  subst e1
                  exact absurd v3 v2
              · exact ⟨rbad 1 0, fun q1' c1' _ _ e _ => by cases e⟩
            obtain ⟨r2, hr2⟩ := hr2
            have pc := c150 (o := o) (q := nxN B N q) (D := dU (o + 1) + 2) (w := w) (r1 := r1) (r2 := r2) hN (by omega) ho (fun _ _ => ⟨x1, x3.1⟩) (fun q1 c1 a b c d => ⟨(hr2 q1 c1 a b c d).1, (hr2 q1 c1 a b c d).2.2.1.1⟩)
            have pm := uM_pair (o := o) (q := q) (D := dU (o + 1) + 2) (w := w) (r1 := r1) (r2 := r2) hN hB (by omega) ho rfl hw (fun _ _ => ⟨x2, x3.1⟩) (fun q1 c1 a b c d => ⟨(hr2 q1 c1 a b c d).2.1, (hr2 q1 c1 a b c d).2.2.1.1⟩)
            have pk := pr_ok (o := o) (q := nxN B N q) (w := w) (b := 3 * o + 5) (r1 := r1) (r2 := r2) n2 (by rcases hw with ⟨-, a⟩ | ⟨-, a⟩ <;> omega) (fun _ _ => ⟨x3, ty_mono x4 (by omega)⟩) (fun q1 c1 a b c d => ⟨(hr2 q1 c1 a b c d).2.2.1, ty_mono (hr2 q1 c1 a b c d).2.2.2 (by omega)⟩)
            exact ⟨prR B N o (nxN B N q) w r1 r2, cs_mono (uC_pair hN (by omega) rfl hw pc) (by omega), ms_mono pm (by omega), prp_lt n1 pk.1, pk.2⟩
          · have pc := c150 (o := o) (q := nxN B N q) (D := 2) (w := w) (r1 := rbad 1 0) (r2 := rbad 1 0) hN (by decide) ho (fun a b => absurd ⟨a, b⟩ v) (fun q1 c1 a b _ _ => absurd ⟨a, b⟩ v)
            have pm := uM_pair (o := o) (q := q) (D := 4) (w := w) (r1 := rbad 1 0) (r2 := rbad 1 0) hN hB (by decide) ho rfl hw (fun a b => absurd ⟨a, b⟩ v) (fun q1 c1 a b _ _ => absurd ⟨a, b⟩ v)
            have pk := pr_ok (o := o) (q := nxN B N q) (w := w) (b := 3 * o + 5) (r1 := rbad 1 0) (r2 := rbad 1 0) n2 (by rcases hw with ⟨-, a⟩ | ⟨-, a⟩ <;> omega) (fun a b => absurd ⟨a, b⟩ v) (fun q1 c1 a b _ _ => absurd ⟨a, b⟩ v)
            exact ⟨prR B N o (nxN B N q) w (rbad 1 0) (rbad 1 0), cs_mono (uC_pair hN (by decide) rfl hw pc) (by omega), ms_mono pm (by omega), prp_lt n1 pk.1, pk.2⟩
        · have hn : tkN B N q ≠ 300 ∧ ¬ (205 ≤ tkN B N q ∧ tkN B N q ≤ 209) ∧ tkN B N q ≠ 224 ∧ tkN B N q ≠ 225 := ⟨t3, t5, fun h => t6 (Or.inl h), fun h => t6 (Or.inr h)⟩
          by_cases v : tkN B N q = 40 ∧ o < 8
          · obtain ⟨hq2, m1, m2⟩ := tk_nx v.1 (by decide)
            have dd := dUs v.2
            obtain ⟨-, -, ⟨r1, x1, x2, x3, x4⟩, -⟩ := IH (nxN B N q) m1 m2 (o + 1) (by omega)
            have pk := br_ok (B := B) (N := N) (q := q) (o := o) (r1 := r1) (op := 40) (cl := 41) (b := 3 * o + 5) (b' := 3 * (o + 1) + 3) (to := fa) hq (by decide) (by decide) (by omega) (fun _ _ => ⟨x3, x4⟩)
            exact ⟨brR B N o q 40 41 r1, cs_mono (uC_br (D := dU (o + 1) + 2) hN (by omega) ho hn (fun _ _ => ⟨x1, x3.1⟩)) (by omega), ms_mono (uM_br (D := dU (o + 1) + 2) hN hB (by omega) ho hn (fun _ _ => ⟨x2, x3.1⟩)) (by omega), pk.1, pk.2⟩
          · have pk := br_ok (B := B) (N := N) (q := q) (o := o) (r1 := rbad 1 0) (op := 40) (cl := 41) (b := 3 * o + 5) (b' := 3 * o + 5) (to := fa) hq (by decide) (by decide) (Nat.le_refl _) (fun a b => absurd ⟨a, b⟩ v)
            exact ⟨brR B N o q 40 41 (rbad 1 0), cs_mono (uC_br (D := 2) hN (by decide) ho hn (fun a b => absurd ⟨a, b⟩ v)) (by omega), ms_mono (uM_br (D := 4) hN hB (by decide) ho hn (fun a b => absurd ⟨a, b⟩ v)) (by omega), pk.1, pk.2⟩
  have hLP : LPm B N o q := by
    by_cases v0 : tkN B N q = 42
    · obtain ⟨hq1, n1, n2⟩ := tk_nx v0 (by decide)
      have ih := IH (nxN B N q) n1 n2 o ho
      obtain ⟨r1, x1, x2, x3, x4⟩ := ih.1
      rcases r1 with ⟨q1, c1⟩ | ⟨k, p⟩
      · have hlt := x3.2 q1 c1 rfl
        obtain ⟨⟨a1, a2⟩, -⟩ := id x3
        obtain ⟨r2, y1, y2, y3, y4⟩ := (IH q1 (by omega) a1 o ho).2.2.2.1
        refine ⟨cmb (c1 ++ [(8, 0)]) r2, c148_k0 hN (by omega) v0 x1 x3.1 y1, m186_k0 hN hB (by omega) v0 x2 x3.1 y2, rp_cmb (by rw [List.length_append]; show c1.length + 1 + q ≤ q1; omega) y3, ty_cmb (Nat.le_refl _) (fun t ht => ?_) y4⟩
        exact tyA_two (x4 (fa t) (by rw [fa_len]; omega)) (ty_two (by decide))
      · obtain ⟨⟨a1, a2, a3⟩, -⟩ := id x3
        exact ⟨rbad k p, c148_b0 hN (by omega) v0 x1, m186_b0 hN hB (by omega) v0 x2 a3, ⟨a1, a2, a3⟩, trivial⟩
    by_cases v1 : tkN B N q = 47
    · obtain ⟨hq1, n1, n2⟩ := tk_nx v1 (by decide)
      have ih := IH (nxN B N q) n1 n2 o ho
      obtain ⟨r1, x1, x2, x3, x4⟩ := ih.1
      rcases r1 with ⟨q1, c1⟩ | ⟨k, p⟩
      · have hlt := x3.2 q1 c1 rfl
        obtain ⟨⟨a1, a2⟩, -⟩ := id x3
        obtain ⟨r2, y1, y2, y3, y4⟩ := (IH q1 (by omega) a1 o ho).2.2.2.1
        refine ⟨cmb (c1 ++ [(9, 0)]) r2, c148_k1 hN (by omega) v1 x1 x3.1 y1, m186_k1 hN hB (by omega) v1 x2 x3.1 y2, rp_cmb (by rw [List.length_append]; show c1.length + 1 + q ≤ q1; omega) y3, ty_cmb (Nat.le_refl _) (fun t ht => ?_) y4⟩
        exact tyA_two (x4 (fa t) (by rw [fa_len]; omega)) (ty_two (by decide))
      · obtain ⟨⟨a1, a2, a3⟩, -⟩ := id x3
        exact ⟨rbad k p, c148_b1 hN (by omega) v1 x1, m186_b1 hN hB (by omega) v1 x2 a3, ⟨a1, a2, a3⟩, trivial⟩
    exact ⟨rok q [], c148_nil hN v0 v1, m186_nil hN hB (by omega) v0 v1, ⟨hq, by show 0 + q ≤ q; omega⟩, fun t _ => rfl⟩
  have hP : Sm B N (fP o) gP (dU o + 1) o q (3 * o + 4) fa := by
    obtain ⟨r1, x1, x2, x3, x4⟩ := hU
    rcases r1 with ⟨q1, c1⟩ | ⟨k, p⟩
    · have hlt := x3.2 q1 c1 rfl
      obtain ⟨r2, y1, y2, y3, y4⟩ := (IH q1 hlt x3.1.1 o ho).2.2.2.1
      have pk := hd_ok (q := q) (q1 := q1) (b := 3 * o + 4) (b' := 3 * o + 4) (to := fa) (c1 := c1) x3 (ty_mono (b := 3 * o + 4) x4 (by omega)) y3 (Nat.le_refl _) y4
      exact ⟨cmb c1 r2, c148_hk x1 x3.1 y1, m186_hk x2 x3.1 y2, pk.1, pk.2⟩
    · obtain ⟨⟨a1, a2, a3⟩, -⟩ := id x3
      exact ⟨rbad k p, c148_hb x1, m186_hb (by omega) x2 (by omega), ⟨⟨a1, a2, a3⟩, fun q' cs e => by cases e⟩, trivial⟩
  have hLS : LSm B N o q := by
    by_cases v0 : tkN B N q = 43
    · obtain ⟨hq1, n1, n2⟩ := tk_nx v0 (by decide)
      have ih := IH (nxN B N q) n1 n2 o ho
      obtain ⟨r1, x1, x2, x3, x4⟩ := ih.2.1
      rcases r1 with ⟨q1, c1⟩ | ⟨k, p⟩
      · have hlt := x3.2 q1 c1 rfl
        obtain ⟨⟨a1, a2⟩, -⟩ := id x3
        obtain ⟨r2, y1, y2, y3, y4⟩ := (IH q1 (by omega) a1 o ho).2.2.2.2.1
        refine ⟨cmb (c1 ++ [(6, 0)]) r2, c147_k0 hN (by omega) v0 x1 x3.1 y1, m187_k0 hN hB (by omega) v0 x2 x3.1 y2, rp_cmb (by rw [List.length_append]; show c1.length + 1 + q ≤ q1; omega) y3, ty_cmb (Nat.le_refl _) (fun t ht => ?_) y4⟩
        exact tyA_two (x4 (fa t) (by rw [fa_len]; omega)) (ty_two (by decide))
      · obtain ⟨⟨a1, a2, a3⟩, -⟩ := id x3
        exact ⟨rbad k p, c147_b0 hN (by omega) v0 x1, m187_b0 hN hB (by omega) v0 x2 a3, ⟨a1, a2, a3⟩, trivial⟩
    by_cases v1 : tkN B N q = 45
    · obtain ⟨hq1, n1, n2⟩ := tk_nx v1 (by decide)
      have ih := IH (nxN B N q) n1 n2 o ho
      obtain ⟨r1, x1, x2, x3, x4⟩ := ih.2.1
      rcases r1 with ⟨q1, c1⟩ | ⟨k, p⟩
      · have hlt := x3.2 q1 c1 rfl
        obtain ⟨⟨a1, a2⟩, -⟩ := id x3
        obtain ⟨r2, y1, y2, y3, y4⟩ := (IH q1 (by omega) a1 o ho).2.2.2.2.1
        refine ⟨cmb (c1 ++ [(7, 0)]) r2, c147_k1 hN (by omega) v1 x1 x3.1 y1, m187_k1 hN hB (by omega) v1 x2 x3.1 y2, rp_cmb (by rw [List.length_append]; show c1.length + 1 + q ≤ q1; omega) y3, ty_cmb (Nat.le_refl _) (fun t ht => ?_) y4⟩
        exact tyA_two (x4 (fa t) (by rw [fa_len]; omega)) (ty_two (by decide))
      · obtain ⟨⟨a1, a2, a3⟩, -⟩ := id x3
        exact ⟨rbad k p, c147_b1 hN (by omega) v1 x1, m187_b1 hN hB (by omega) v1 x2 a3, ⟨a1, a2, a3⟩, trivial⟩
    exact ⟨rok q [], c147_nil hN v0 v1, m187_nil hN hB (by omega) v0 v1, ⟨hq, by show 0 + q ≤ q; omega⟩, fun t _ => rfl⟩
  have hS : Sm B N (fS o) gS (dU o + 2) o q (3 * o + 3) fa := by
    obtain ⟨r1, x1, x2, x3, x4⟩ := hP
    rcases r1 with ⟨q1, c1⟩ | ⟨k, p⟩
    · have hlt := x3.2 q1 c1 rfl
      obtain ⟨r2, y1, y2, y3, y4⟩ := (IH q1 hlt x3.1.1 o ho).2.2.2.2.1
      have pk := hd_ok (q := q) (q1 := q1) (b := 3 * o + 3) (b' := 3 * o + 3) (to := fa) (c1 := c1) x3 (ty_mono (b := 3 * o + 3) x4 (by omega)) y3 (Nat.le_refl _) y4
      exact ⟨cmb c1 r2, c147_hk x1 x3.1 y1, m187_hk x2 x3.1 y2, pk.1, pk.2⟩
    · obtain ⟨⟨a1, a2, a3⟩, -⟩ := id x3
      exact ⟨rbad k p, c147_hb x1, m187_hb (by omega) x2 (by omega), ⟨⟨a1, a2, a3⟩, fun q' cs e => by cases e⟩, trivial⟩
  have hT : Sm B N (fT o) gT (dU o + 3) o q (3 * o + 2) tr := by
    by_cases v : tkN B N q = 223
    · obtain ⟨hq1, n1, n2⟩ := tk_nx v (by decide)
      by_cases w : o < 8
      · have dd := dUs w
        obtain ⟨-, -, -, -, -, ⟨r1, x1, x2, x3, x4⟩, -⟩ := IH (nxN B N q) n1 n2 (o + 1) (by omega)
        refine ⟨ntR o q r1, cs_mono (tC_not (D := dU (o + 1) + 3) hN (by omega) ho v (fun _ => ⟨x1, x3.1⟩)) (by omega), ms_mono (tM_not (D := dU (o + 1) + 3) hN hB (by omega) ho v (fun _ => ⟨x2, x3.1⟩)) (by omega), ?_⟩
        unfold ntR
        rw [if_pos w]
        rcases r1 with ⟨q1, c1⟩ | ⟨k, p⟩
        · obtain ⟨⟨a, b⟩, c⟩ := x3
          refine ⟨⟨⟨a, ?_⟩, fun q' cs e => ?_⟩, fun t ht => tyA_two (x4 t (by omega)) ty_not⟩
          · rw [List.length_append]; show c1.length + 1 + q ≤ q1; omega
          · have := c q1 c1 rfl
            injection e with e
            injection e with e1 e2
            omega
        · obtain ⟨⟨a, b, c⟩, -⟩ := x3
          exact ⟨⟨⟨a, b, c⟩, fun q' cs e => by cases e⟩, trivial⟩
      · refine ⟨ntR o q (rbad 1 0), cs_mono (tC_not (D := 2) hN (by decide) ho v (fun a => absurd a w)) (by omega), ms_mono (tM_not (D := 4) hN hB (by decide) ho v (fun a => absurd a w)) (by omega), ?_⟩
        unfold ntR
        rw [if_neg w]
        exact ⟨⟨⟨by decide, by decide, hq⟩, fun q' cs e => by cases e⟩, trivial⟩
    · by_cases v2 : tkN B N q = 91
      · obtain ⟨hq1, n1, n2⟩ := tk_nx v2 (by decide)
        by_cases w : o < 8
        · have dd := dUs w
          obtain ⟨-, -, -, -, -, -, -, ⟨r1, x1, x2, x3, x4⟩, -⟩ := IH (nxN B N q) n1 n2 (o + 1) (by omega)
          have pk := br_ok (B := B) (N := N) (q := q) (o := o) (r1 := r1) (op := 91) (cl := 93) (b := 3 * o + 2) (b' := 3 * (o + 1)) (to := tr) hq (by decide) (by decide) (by omega) (fun _ _ => ⟨x3, x4⟩)
          exact ⟨brR B N o q 91 93 r1, cs_mono (tC_br (D := dU (o + 1) + 5) hN (by omega) ho v2 (fun _ => ⟨x1, x3.1⟩)) (by omega), ms_mono (tM_br (D := dU (o + 1) + 5) hN hB (by omega) ho v2 (fun _ => ⟨x2, x3.1⟩)) (by omega), pk.1, pk.2⟩
        · have pk := br_ok (B := B) (N := N) (q := q) (o := o) (r1 := rbad 1 0) (op := 91) (cl := 93) (b := 3 * o + 2) (b' := 3 * o + 2) (to := tr) hq (by decide) (by decide) (Nat.le_refl _) (fun _ b => absurd b w)
          exact ⟨brR B N o q 91 93 (rbad 1 0), cs_mono (tC_br (D := 2) hN (by decide) ho v2 (fun b => absurd b w)) (by omega), ms_mono (tM_br (D := 4) hN hB (by decide) ho v2 (fun b => absurd b w)) (by omega), pk.1, pk.2⟩
      · obtain ⟨r1, x1, x2, x3, x4⟩ := hS
        have hr2 : ∃ r2, ∀ q1 c1, r1 = Sum.inl (q1, c1) → (tkN B N q1 = 60 ∨ tkN B N q1 = 62 ∨ tkN B N q1 = 61) → CSim B N (fS o) (dU o + 2) (nxN B N q1) r2 ∧ MSim B N gS (dU o + 2) o (nxN B N q1) r2 ∧ PRp N (nxN B N q1) r2 ∧ TY (3 * o + 3) id fa r2 := by
          rcases r1 with ⟨q1, c1⟩ | ⟨k, p⟩
          · by_cases v3 : tkN B N q1 = 60 ∨ tkN B N q1 = 62 ∨ tkN B N q1 = 61
            · obtain ⟨hq3, k1, k2⟩ := tk_nx (rfl : tkN B N q1 = tkN B N q1) (by omega)
              have hlt := x3.2 q1 c1 rfl
              obtain ⟨-, -, ⟨r2, y1, y2, y3, y4⟩, -⟩ := IH (nxN B N q1) (by omega) k2 o ho
              refine ⟨r2, fun q1' c1' e _ => ?_⟩
              injection e with e
              injection e with e1 e2
              subst e1
              exact ⟨y1, y2, y3, y4⟩
            · refine ⟨rbad 1 0, fun q1' c1' e v4 => ?_⟩
              injection e with e
              injection e with e1 e2
              subst e1
              exact absurd v4 v3
          · exact ⟨rbad 1 0, fun q1' c1' e _ => by cases e⟩
        obtain ⟨r2, hr2⟩ := hr2
        refine ⟨cpR B N r1 r2, tC_cmp hN (by omega) ⟨v, v2⟩ x1 x3.1 (fun q1 c1 a b => ⟨(hr2 q1 c1 a b).1, (hr2 q1 c1 a b).2.2.1.1⟩), tM_cmp hN hB (by omega) ⟨v, v2⟩ x2 x3.1 (fun q1 c1 a b => ⟨(hr2 q1 c1 a b).2.1, (hr2 q1 c1 a b).2.2.1.1⟩), ?_⟩
        rcases r1 with ⟨q1, c1⟩ | ⟨k, p⟩
        · obtain ⟨⟨a, b⟩, c⟩ := x3
          have hlt := c q1 c1 rfl
          show PRp N q (if tkN B N q1 = 60 ∨ tkN B N q1 = 62 ∨ tkN B N q1 = 61 then _ else rbad 1 q1) ∧ TY _ id tr (if tkN B N q1 = 60 ∨ tkN B N q1 = 62 ∨ tkN B N q1 = 61 then _ else rbad 1 q1)
          by_cases v3 : tkN B N q1 = 60 ∨ tkN B N q1 = 62 ∨ tkN B N q1 = 61
          · rw [if_pos v3]
            obtain ⟨-, -, y3, y4⟩ := hr2 q1 c1 rfl v3
            obtain ⟨hq3, k1, k2⟩ := tk_nx (rfl : tkN B N q1 = tkN B N q1) (by omega)
            rcases r2 with ⟨q2, c2⟩ | ⟨k, p⟩
            · obtain ⟨⟨d1, d2⟩, d3⟩ := y3
              refine ⟨⟨⟨d1, ?_⟩, fun q' cs e => ?_⟩, fun t ht => ?_⟩
              · rw [List.length_append, List.length_append]; show c1.length + (c2.length + 1) + q ≤ q2; omega
              · injection e with e
                injection e with e1 e2
                omega
              · refine tyA_two (x4 t (by omega)) (tyA_two (y4 (fa t) (by rw [fa_len]; omega)) (ty_cmp ?_))
                unfold cpW
                split
                · decide
                · split <;> decide
            · obtain ⟨⟨a, b, c⟩, -⟩ := y3
              exact ⟨⟨⟨a, b, c⟩, fun q' cs e => by cases e⟩, trivial⟩
          · rw [if_neg v3]
            exact ⟨⟨⟨by decide, by decide, a⟩, fun q' cs e => by cases e⟩, trivial⟩
        · obtain ⟨⟨a, b, c⟩, -⟩ := x3
          exact ⟨⟨⟨a, b, c⟩, fun q' cs e => by cases e⟩, trivial⟩
  have hLB : LBt B N o q := by
    by_cases v0 : tkN B N q = 222
    · obtain ⟨hq1, n1, n2⟩ := tk_nx v0 (by decide)
      have ih := IH (nxN B N q) n1 n2 o ho
      obtain ⟨r1, x1, x2, x3, x4⟩ := ih.2.2.2.2.2.1
      rcases r1 with ⟨q1, c1⟩ | ⟨k, p⟩
      · have hlt := x3.2 q1 c1 rfl
        obtain ⟨⟨a1, a2⟩, -⟩ := id x3
        obtain ⟨r2, y1, y2, y3, y4⟩ := (IH q1 (by omega) a1 o ho).2.2.2.2.2.2.2.2.1
        refine ⟨cmb (c1 ++ [(16, 0)]) r2, c152_k0 hN (by omega) v0 x1 x3.1 y1, m189_k0 hN hB (by omega) v0 x2 x3.1 y2, rp_cmb (by rw [List.length_append]; show c1.length + 1 + q ≤ q1; omega) y3, ty_cmb (Nat.le_refl _) (fun t ht => ?_) y4⟩
        exact tyA_two (x4 (tr t) (by rw [tr_len]; omega)) (ty_log (by decide))
      · obtain ⟨⟨a1, a2, a3⟩, -⟩ := id x3
        exact ⟨rbad k p, c152_b0 hN (by omega) v0 x1, m189_b0 hN hB (by omega) v0 x2 a3, ⟨a1, a2, a3⟩, trivial⟩
    exact ⟨rok q [], c152_nil hN v0, m189_nil hN hB (by omega) v0, ⟨hq, by show 0 + q ≤ q; omega⟩, fun t _ => rfl⟩
  have hBb : Sm B N (fB o) gB (dU o + 4) o q (3 * o + 1) tr := by
    obtain ⟨r1, x1, x2, x3, x4⟩ := hT
    rcases r1 with ⟨q1, c1⟩ | ⟨k, p⟩
    · have hlt := x3.2 q1 c1 rfl
      obtain ⟨r2, y1, y2, y3, y4⟩ := (IH q1 hlt x3.1.1 o ho).2.2.2.2.2.2.2.2.1
      have pk := hd_ok (q := q) (q1 := q1) (b := 3 * o + 1) (b' := 3 * o + 1) (to := tr) (c1 := c1) x3 (ty_mono (b := 3 * o + 1) x4 (by omega)) y3 (Nat.le_refl _) y4
      exact ⟨cmb c1 r2, c152_hk x1 x3.1 y1, m189_hk x2 x3.1 y2, pk.1, pk.2⟩
    · obtain ⟨⟨a1, a2, a3⟩, -⟩ := id x3
      exact ⟨rbad k p, c152_hb x1, m189_hb (by omega) x2 (by omega), ⟨⟨a1, a2, a3⟩, fun q' cs e => by cases e⟩, trivial⟩
  have hLE : LEi B N o q := by
    by_cases v0 : tkN B N q = 221
    · obtain ⟨hq1, n1, n2⟩ := tk_nx v0 (by decide)
      have ih := IH (nxN B N q) n1 n2 o ho
      obtain ⟨r1, x1, x2, x3, x4⟩ := ih.2.2.2.2.2.2.1
      rcases r1 with ⟨q1, c1⟩ | ⟨k, p⟩
      · have hlt := x3.2 q1 c1 rfl
        obtain ⟨⟨a1, a2⟩, -⟩ := id x3
        obtain ⟨r2, y1, y2, y3, y4⟩ := (IH q1 (by omega) a1 o ho).2.2.2.2.2.2.2.2.2
        refine ⟨cmb (c1 ++ [(15, 0)]) r2, c151_k0 hN (by omega) v0 x1 x3.1 y1, m188_k0 hN hB (by omega) v0 x2 x3.1 y2, rp_cmb (by rw [List.length_append]; show c1.length + 1 + q ≤ q1; omega) y3, ty_cmb (Nat.le_refl _) (fun t ht => ?_) y4⟩
        exact tyA_two (x4 (tr t) (by rw [tr_len]; omega)) (ty_log (by decide))
      · obtain ⟨⟨a1, a2, a3⟩, -⟩ := id x3
        exact ⟨rbad k p, c151_b0 hN (by omega) v0 x1, m188_b0 hN hB (by omega) v0 x2 a3, ⟨a1, a2, a3⟩, trivial⟩
    exact ⟨rok q [], c151_nil hN v0, m188_nil hN hB (by omega) v0, ⟨hq, by show 0 + q ≤ q; omega⟩, fun t _ => rfl⟩
  have hE : Sm B N (fE o) gE (dU o + 5) o q (3 * o) tr := by
    obtain ⟨r1, x1, x2, x3, x4⟩ := hBb
    rcases r1 with ⟨q1, c1⟩ | ⟨k, p⟩
    · have hlt := x3.2 q1 c1 rfl
      obtain ⟨r2, y1, y2, y3, y4⟩ := (IH q1 hlt x3.1.1 o ho).2.2.2.2.2.2.2.2.2
      have pk := hd_ok (q := q) (q1 := q1) (b := 3 * o) (b' := 3 * o) (to := tr) (c1 := c1) x3 (ty_mono (b := 3 * o) x4 (by omega)) y3 (Nat.le_refl _) y4
      exact ⟨cmb c1 r2, c151_hk x1 x3.1 y1, m188_hk x2 x3.1 y2, pk.1, pk.2⟩
    · obtain ⟨⟨a1, a2, a3⟩, -⟩ := id x3
      exact ⟨rbad k p, c151_hb x1, m188_hb (by omega) x2 (by omega), ⟨⟨a1, a2, a3⟩, fun q' cs e => by cases e⟩, trivial⟩
  exact ⟨hU, hP, hS, hLP, hLS, hT, hBb, hE, hLB, hLE⟩
/-- every text, from every place on -/
theorem all_sim (hN : N ≤ 400) (hB : ∀ j, j < N → B j ≤ 255) : ∀ m q, q ≤ N → N - q < m → ∀ o, o ≤ 8 → AllS B N o q := by
  intro m
  induction m with
  | zero => intro q _ h; exact absurd h (Nat.not_lt_zero _)
  | succ m ih => exact fun q hq h o ho => all_step hN hB hq ho (fun q' h1 h2 o' ho' => ih q' h2 (by omega) o' ho')
end TU
