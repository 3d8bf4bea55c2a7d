/-! THE PURE PROOFS: a text's tokens -/
def spn (P : Nat → Bool) (B : Nat → Nat) (N : Nat) : Nat → Nat → Nat
  | 0, p => p
  | f + 1, p => bif Nat.blt p N && P (B p) then spn P B N f (p + 1) else p
theorem spn_ok {P : Nat → Bool} {B : Nat → Nat} {N : Nat} : ∀ f p, N ≤ p + f → p ≤ spn P B N f p ∧ (p ≤ N → spn P B N f p ≤ N) ∧ (∀ i, p ≤ i → i < spn P B N f p → i < N ∧ P (B i) = true) ∧ (spn P B N f p < N → P (B (spn P B N f p)) = false) := by
  intro f
  induction f with
  | zero =>
    intro p h
    show p ≤ p ∧ (p ≤ N → p ≤ N) ∧ (∀ i, p ≤ i → i < p → _) ∧ (p < N → _)
    exact ⟨Nat.le_refl _, id, fun i h1 h2 => by omega, fun w => by omega⟩
  | succ f ih =>
    intro p h
    unfold spn
    cases c : (Nat.blt p N && P (B p))
    · refine ⟨Nat.le_refl _, id, fun i h1 h2 => ?_, fun w => ?_⟩
      · rw [cond_false] at h2; omega
      · rw [cond_false] at w ⊢
        rw [Nat.blt_eq.mpr w, Bool.true_and] at c
        exact c
    · rw [Bool.and_eq_true] at c
      have hp := Nat.blt_eq.mp c.1
      obtain ⟨a1, a2, a3, a4⟩ := ih (p + 1) (by omega)
      rw [cond_true]
      refine ⟨by omega, fun _ => a2 (by omega), fun i h1 h2 => ?_, a4⟩
      by_cases q : i = p
      · subst q; exact ⟨hp, c.2⟩
      · exact a3 i (by omega) h2
theorem spn_eq {P : Nat → Bool} {B : Nat → Nat} {N f p q : Nat} (hf : N ≤ p + f) (h1 : p ≤ q) (h2 : ∀ i, p ≤ i → i < q → i < N ∧ P (B i) = true) (h3 : q < N → P (B q) = false) (h4 : q ≤ N ∨ p = q) : spn P B N f p = q := by
  obtain ⟨a1, a2, a3, a4⟩ := spn_ok (P := P) (B := B) (N := N) f p hf
  rcases Nat.lt_trichotomy (spn P B N f p) q with w | w | w
  · obtain ⟨b1, b2⟩ := h2 _ a1 w
    rw [a4 b1] at b2; cases b2
  · exact w
  · obtain ⟨b1, b2⟩ := a3 q h1 w
    rw [h3 b1] at b2; cases b2
def isSp (b : Nat) : Bool := Nat.beq b 32
def isDg (b : Nat) : Bool := Nat.ble 48 b && Nat.ble b 57
def isLt (b : Nat) : Bool := Nat.ble 97 b && Nat.ble b 122
section LX
variable (B : Nat → Nat) (N : Nat)
def skp (p : Nat) : Nat := spn isSp B N N p
def dge (p : Nat) : Nat := spn isDg B N N p
def lte (p : Nat) : Nat := spn isLt B N N p
/-- a word's value: its letters as digits; 0 if it is too long -/
def wlN (q : Nat) : Nat → Nat
  | 0 => 0
  | n + 1 => if n < 7 then wlN q n * 32 + (B (q + n) - 96) else 0
def wvN (q : Nat) : Nat := if lte B N q - q ≤ 7 then wlN B q (lte B N q - q) else 0
def WV : List Nat := [16826546, 7734899, 20782, 206221, 13951140, 824370, 11842035, 20186693, 7931315, 404526675, 6309, 672734388, 15558, 21487059, 2094, 12748404, 21571091, 16727147987, 437622355, 20510323891, 294, 498, 1476, 14836, 13614, 13368]
/-- the place of a value in a list; as a word's token -/
def wcA (v : Nat) : List Nat → Nat → Nat
  | [], _ => 302
  | a :: l, k => if v = a then k else wcA v l (k + 1)
def wcode (v : Nat) : Nat := wcA v WV 200
def cvN (q : Nat) : Nat → Nat
  | 0 => 0
  | n + 1 => min 10000 (cvN q n * 10 + (B (q + n) - 48))
def mvN (q : Nat) : Nat → Nat
  | 0 => 0
  | n + 1 => if 10000 < mvN q n then 100000 else 10 * mvN q n + (B (q + n) - 48)
/-- a token's kind, its number, where it ends -/
def tkN (q : Nat) : Nat := if N ≤ q then 301 else if isDg (B q) = true then 300 else if isLt (B q) = true then wcode (wvN B N q) else if strS.contains (B q) = true then B q else 302
def nvN (q : Nat) : Nat := if q < N ∧ isDg (B q) = true then cvN B q (dge B N q - q) else 0
def teN (q : Nat) : Nat := if N ≤ q then q else if isDg (B q) = true then dge B N q else if isLt (B q) = true then lte B N q else q + 1
/-- the tokens one behind the other -/
def tpN : Nat → Nat
  | 0 => skp B N 0
  | i + 1 => skp B N (teN B N (tpN i))
def nxN (q : Nat) : Nat := skp B N (teN B N q)
end LX
section LY
variable {B : Nat → Nat} {N p q : Nat}
theorem skp_ok : p ≤ skp B N p ∧ (p ≤ N → skp B N p ≤ N) ∧ (∀ i, p ≤ i → i < skp B N p → i < N ∧ isSp (B i) = true) ∧ (skp B N p < N → isSp (B (skp B N p)) = false) := spn_ok N p (by omega)
theorem dge_ok : p ≤ dge B N p ∧ (p ≤ N → dge B N p ≤ N) ∧ (∀ i, p ≤ i → i < dge B N p → i < N ∧ isDg (B i) = true) ∧ (dge B N p < N → isDg (B (dge B N p)) = false) := spn_ok N p (by omega)
theorem lte_ok : p ≤ lte B N p ∧ (p ≤ N → lte B N p ≤ N) ∧ (∀ i, p ≤ i → i < lte B N p → i < N ∧ isLt (B i) = true) ∧ (lte B N p < N → isLt (B (lte B N p)) = false) := spn_ok N p (by omega)
theorem skp_mid {a : Nat} (h1 : p ≤ a) (h2 : a ≤ skp B N p) (hp : p ≤ N) : skp B N a = skp B N p := by
  obtain ⟨a1, a2, a3, a4⟩ := skp_ok (B := B) (N := N) (p := p)
  exact spn_eq (by omega) h2 (fun i h3 h4 => a3 i (by omega) h4) a4 (Or.inl (a2 hp))
/-- what stands where: no blank -/
theorem skp_self (h : skp B N p = q) (hp : p ≤ N) : skp B N q = q := by
  have := skp_mid (a := q) (B := B) (N := N) (p := p) (by rw [← h]; exact skp_ok.1) (by rw [h]; exact Nat.le_refl _) hp
  rw [this, h]
theorem dg_lt {b : Nat} (h : isDg b = true) : isLt b = false := by
  unfold isDg at h
  unfold isLt
  rw [Bool.and_eq_true] at h
  have h1 := Nat.le_of_ble_eq_true h.2
  rw [Nlf (show b < 97 by omega), Bool.false_and]
theorem dg_r {b : Nat} (h : isDg b = true) : 48 ≤ b ∧ b ≤ 57 := by
  unfold isDg at h
  rw [Bool.and_eq_true] at h
  exact ⟨Nat.le_of_ble_eq_true h.1, Nat.le_of_ble_eq_true h.2⟩
theorem lt_r {b : Nat} (h : isLt b = true) : 97 ≤ b ∧ b ≤ 122 := by
  unfold isLt at h
  rw [Bool.and_eq_true] at h
  exact ⟨Nat.le_of_ble_eq_true h.1, Nat.le_of_ble_eq_true h.2⟩
theorem te_ok (h : q < N) : q < teN B N q ∧ teN B N q ≤ N := by
  unfold teN
  rw [if_neg (by omega)]
  by_cases d : isDg (B q) = true
  · rw [if_pos d]
    obtain ⟨a1, a2, a3, a4⟩ := dge_ok (B := B) (N := N) (p := q)
    refine ⟨?_, a2 (by omega)⟩
    rcases Nat.lt_or_ge q (dge B N q) with w | w
    · exact w
    · have e : dge B N q = q := by omega
      rw [e] at a4
      rw [a4 h] at d; cases d
  · rw [if_neg d]
    by_cases l : isLt (B q) = true
    · rw [if_pos l]
      obtain ⟨a1, a2, a3, a4⟩ := lte_ok (B := B) (N := N) (p := q)
      refine ⟨?_, a2 (by omega)⟩
      rcases Nat.lt_or_ge q (lte B N q) with w | w
      · exact w
      · have e : lte B N q = q := by omega
        rw [e] at a4
        rw [a4 h] at l; cases l
    · rw [if_neg l]; omega
theorem nx_ok (h : q < N) : q < nxN B N q ∧ nxN B N q ≤ N := by
  obtain ⟨a1, a2⟩ := te_ok (B := B) h
  obtain ⟨b1, b2, -, -⟩ := skp_ok (B := B) (N := N) (p := teN B N q)
  unfold nxN
  exact ⟨by omega, b2 a2⟩
theorem te_end (h : N ≤ q) : teN B N q = q := by unfold teN; rw [if_pos h]
theorem tp_le : ∀ i, tpN B N i ≤ N := by
  intro i
  induction i with
  | zero => exact skp_ok.2.1 (Nat.zero_le _)
  | succ i ih =>
    show skp B N (teN B N (tpN B N i)) ≤ N
    rcases Nat.lt_or_ge (tpN B N i) N with w | w
    · exact skp_ok.2.1 (te_ok w).2
    · rw [te_end w]; exact skp_ok.2.1 ih
theorem tp_ge : ∀ i, tpN B N i < N → i ≤ tpN B N i := by
  intro i
  induction i with
  | zero => intro _; exact Nat.zero_le _
  | succ i ih =>
    intro h
    have h2 : tpN B N i < N := by
      refine Nat.lt_of_not_le (fun w => ?_)
      have e : tpN B N (i + 1) = skp B N (tpN B N i) := by show skp B N (teN B N (tpN B N i)) = _; rw [te_end w]
      have := (skp_ok (B := B) (N := N) (p := tpN B N i)).1
      omega
    have := (nx_ok (B := B) h2).1
    have e : tpN B N (i + 1) = nxN B N (tpN B N i) := rfl
    have := ih h2
    omega
/-! words -/
theorem wl_lt : ∀ n, n ≤ 7 → (∀ i, i < n → isLt (B (q + i)) = true) → wlN B q n < 32 ^ n := by
  intro n
  induction n with
  | zero => intro _ _; exact Nat.zero_lt_one
  | succ n ih =>
    intro hn h
    have h1 := ih (by omega) (fun i hi => h i (by omega))
    have h2 := lt_r (h n (by omega))
    unfold wlN
    rw [if_pos (by omega), Nat.pow_succ]
    omega
theorem wl_inj {B' : Nat → Nat} {q' : Nat} : ∀ n n', n ≤ 7 → n' ≤ 7 → (∀ i, i < n → isLt (B (q + i)) = true) → (∀ i, i < n' → isLt (B' (q' + i)) = true) → wlN B q n = wlN B' q' n' → n = n' ∧ ∀ i, i < n → B (q + i) = B' (q' + i) := by
  intro n
  induction n with
  | zero =>
    intro n' _ hn' _ h' e
    cases n' with
    | zero => exact ⟨rfl, fun i hi => absurd hi (by omega)⟩
    | succ n' =>
      have h2 := lt_r (h' n' (by omega))
      unfold wlN at e
      rw [if_pos (show n' < 7 by omega)] at e
      omega
  | succ n ih =>
    intro n' hn hn' h h' e
    have h1 := lt_r (h n (by omega))
    cases n' with
    | zero =>
      unfold wlN at e
      rw [if_pos (show n < 7 by omega)] at e
      omega
    | succ n' =>
      have h2 := lt_r (h' n' (by omega))
      unfold wlN at e
      rw [if_pos (show n < 7 by omega), if_pos (show n' < 7 by omega)] at e
      obtain ⟨i1, i2⟩ := ih n' (by omega) (by omega) (fun i hi => h i (by omega)) (fun i hi => h' i (by omega)) (by omega)
      refine ⟨by omega, fun i hi => ?_⟩
      rcases Nat.lt_or_ge i n with w | w
      · exact i2 i w
      · have e1 : i = n := by omega
        subst e1
        subst i1
        omega
/-- the words -/
def WT : List (List Nat) := [[112, 97, 112, 101, 114], [103, 108, 97, 115, 115], [116, 105, 110], [102, 105, 108, 109], [109, 105, 120, 101, 100], [121, 101, 97, 114], [107, 105, 108, 111, 115], [115, 104, 97, 114, 101], [103, 114, 97, 109, 115], [108, 97, 121, 101, 114, 115], [102, 101, 101], [116, 97, 114, 103, 101, 116], [111, 102, 102], [116, 111, 119, 110, 115], [98, 97, 110], [108, 101, 97, 115, 116], [116, 114, 105, 112, 115], [111, 114, 112, 104, 97, 110, 115], [109, 97, 107, 101, 114, 115], [115, 99, 104, 101, 109, 101, 115], [105, 102], [111, 114], [97, 110, 100], [110, 111, 116], [109, 105, 110], [109, 97, 120]]
theorem WT_str : strW = (WT.map (fun l => l ++ [32])).flatten := by decide +kernel
theorem WT_val : WV = WT.map (fun l => wlN (fun i => l.getD i 0) 0 l.length) := by decide +kernel
theorem WT_ok : WT.all (fun l => Nat.ble l.length 7 && Nat.blt 0 l.length && l.all isLt) = true := by decide +kernel
/-- is this the word? -/
def isWd (B : Nat → Nat) (q n : Nat) (l : List Nat) : Bool := Nat.beq n l.length && (List.range l.length).all (fun i => Nat.beq (B (q + i)) (l.getD i 0))
theorem isWd_iff {n : Nat} {l : List Nat} : isWd B q n l = true ↔ n = l.length ∧ ∀ i, i < l.length → B (q + i) = l.getD i 0 := by
  unfold isWd
  rw [Bool.and_eq_true, List.all_eq_true]
  constructor
  · rintro ⟨a, b⟩
    exact ⟨Nat.eq_of_beq_eq_true a, fun i hi => Nat.eq_of_beq_eq_true (b i (List.mem_range.mpr hi))⟩
  · rintro ⟨a, b⟩
    exact ⟨Nbt a, fun i hi => Nbt (b i (List.mem_range.mp hi))⟩
theorem wl_c {B' : Nat → Nat} {q' : Nat} : ∀ n, (∀ i, i < n → B (q + i) = B' (q' + i)) → wlN B q n = wlN B' q' n := by
  intro n
  induction n with
  | zero => intro _; rfl
  | succ n ih =>
    intro h
    unfold wlN
    rw [ih (fun i hi => h i (by omega)), h n (by omega)]
theorem isWd_val {n : Nat} {l : List Nat} (hl : l ∈ WT) (h : ∀ i, i < n → isLt (B (q + i)) = true) : isWd B q n l = true ↔ (if n ≤ 7 then wlN B q n else 0) = wlN (fun i => l.getD i 0) 0 l.length := by
  have ok := List.all_eq_true.mp WT_ok l hl
  rw [Bool.and_eq_true, Bool.and_eq_true] at ok
  have l7 := Nat.le_of_ble_eq_true ok.1.1
  have l0 := Nat.blt_eq.mp ok.1.2
  have lL : ∀ i, i < l.length → isLt (l.getD (0 + i) 0) = true := by
    intro i hi
    rw [Nat.zero_add, List.getD_eq_getElem?_getD, List.getElem?_eq_getElem hi]
    exact List.all_eq_true.mp ok.2 _ (List.getElem_mem hi)
  rw [isWd_iff]
  constructor
  · rintro ⟨a, b⟩
    rw [if_pos (by omega), a]
    exact wl_c l.length (fun i hi => by rw [Nat.zero_add]; exact b i hi)
  · intro e
    by_cases w : n ≤ 7
    · rw [if_pos w] at e
      obtain ⟨i1, i2⟩ := wl_inj n l.length w l7 h lL e
      exact ⟨i1, fun i hi => by have := i2 i (by omega); rw [Nat.zero_add] at this; exact this⟩
    · rw [if_neg w] at e
      exfalso
      have : wlN (fun i => l.getD i 0) 0 l.length ≠ 0 := by
        obtain ⟨m, hm⟩ : ∃ m, l.length = m + 1 := ⟨l.length - 1, by omega⟩
        have h2 := lt_r (lL m (by omega))
        rw [hm]
        unfold wlN
        rw [if_pos (by omega)]
        show wlN (fun i => l.getD i 0) 0 m * 32 + (l.getD (0 + m) 0 - 96) ≠ 0
        omega
      exact this e.symm
/-- the first word that it is -/
def wcL (B : Nat → Nat) (q n : Nat) : List (List Nat) → Nat → Nat
  | [], _ => 302
  | l :: t, k => bif isWd B q n l then k else wcL B q n t (k + 1)
theorem wcL_A {n : Nat} (h : ∀ i, i < n → isLt (B (q + i)) = true) : ∀ (t : List (List Nat)) k, (∀ l ∈ t, l ∈ WT) → wcL B q n t k = wcA (if n ≤ 7 then wlN B q n else 0) (t.map (fun l => wlN (fun i => l.getD i 0) 0 l.length)) k := by
  intro t
  induction t with
  | nil => intro k _; rfl
  | cons l t ih =>
    intro k hm
    have e := isWd_val (q := q) (n := n) (hm l (List.mem_cons_self ..)) h
    have i1 := ih (k + 1) (fun l' hl' => hm l' (List.mem_cons_of_mem _ hl'))
    show (bif isWd B q n l then k else wcL B q n t (k + 1)) = (if (if n ≤ 7 then wlN B q n else 0) = wlN (fun i => l.getD i 0) 0 l.length then k else wcA _ _ (k + 1))
    cases c : isWd B q n l
    · rw [if_neg (fun w => by rw [e.mpr w] at c; cases c), cond_false, i1]
    · rw [if_pos (e.mp c), cond_true]
theorem wcL_code {n : Nat} (h : ∀ i, i < n → isLt (B (q + i)) = true) : wcL B q n WT 200 = wcode (if n ≤ 7 then wlN B q n else 0) := by
  unfold wcode
  rw [WT_val]
  exact wcL_A h WT 200 (fun l hl => hl)
/-- the class's way: letter by letter -/
noncomputable def wrd (B : Nat → Nat) (q n : Nat) : List Nat → Nat → Nat → Bool → Nat
  | [], _, _, _ => 302
  | c :: t, k, m, s => bif Nat.beq c 32 then (bif s && Nat.beq m n then k else wrd B q n t (k + 1) 0 true) else wrd B q n t k (m + 1) (s && Nat.blt m n && Nat.beq (B (q + m)) c)
theorem wrd_w {n : Nat} {rest : List Nat} {k : Nat} : ∀ (l pre : List Nat) (s : Bool), (l.all isLt) = true → (s = true ↔ pre.length ≤ n ∧ ∀ i, i < pre.length → B (q + i) = pre.getD i 0) → wrd B q n (l ++ 32 :: rest) k pre.length s = bif isWd B q n (pre ++ l) then k else wrd B q n rest (k + 1) 0 true := by
  intro l
  induction l with
  | nil =>
    intro pre s _ hs
    show (bif Nat.beq 32 32 then (bif s && Nat.beq pre.length n then k else wrd B q n rest (k + 1) 0 true) else _) = _
    have e : (s && Nat.beq pre.length n) = isWd B q n (pre ++ []) := by
      rw [List.append_nil]
      cases c : isWd B q n pre
      · cases s
        · rfl
        · rw [Bool.true_and]
          refine Nbf (fun w => ?_)
          obtain ⟨a, b⟩ := hs.mp rfl
          rw [isWd_iff.mpr ⟨w.symm, b⟩] at c; cases c
      · obtain ⟨a, b⟩ := isWd_iff.mp c
        rw [hs.mpr ⟨by omega, b⟩, Nbt a.symm]; rfl
    rw [e]; rfl
  | cons c l ih =>
    intro pre s hl hs
    rw [List.all_cons, Bool.and_eq_true] at hl
    have hc := lt_r hl.1
    show (bif Nat.beq c 32 then _ else wrd B q n (l ++ 32 :: rest) k (pre.length + 1) (s && Nat.blt pre.length n && Nat.beq (B (q + pre.length)) c)) = _
    rw [Nbf (show c ≠ 32 by omega), cond_false]
    have e := ih (pre ++ [c]) (s && Nat.blt pre.length n && Nat.beq (B (q + pre.length)) c) hl.2 (by
      rw [Bool.and_eq_true, Bool.and_eq_true, hs, List.length_append, Nat.blt_eq]
      show ((pre.length ≤ n ∧ _) ∧ pre.length < n) ∧ Nat.beq (B (q + pre.length)) c = true ↔ pre.length + 1 ≤ n ∧ ∀ i, i < pre.length + 1 → _
      constructor
      · rintro ⟨⟨⟨a1, a2⟩, a3⟩, a4⟩
        refine ⟨a3, fun i hi => ?_⟩
        rcases Nat.lt_or_ge i pre.length with w | w
        · rw [List.getD_eq_getElem?_getD, List.getElem?_append_left w, ← List.getD_eq_getElem?_getD]; exact a2 i w
        · have : i = pre.length := by omega
          subst this
          rw [List.getD_eq_getElem?_getD, List.getElem?_append_right (Nat.le_refl _), Nat.sub_self]
          exact Nat.eq_of_beq_eq_true a4
      · rintro ⟨a1, a2⟩
        refine ⟨⟨⟨by omega, fun i hi => ?_⟩, a1⟩, ?_⟩
        · have := a2 i (by omega)
          rw [List.getD_eq_getElem?_getD, List.getElem?_append_left hi, ← List.getD_eq_getElem?_getD] at this; exact this
        · have := a2 pre.length (by omega)
          rw [List.getD_eq_getElem?_getD, List.getElem?_append_right (Nat.le_refl _), Nat.sub_self] at this
          exact Nbt this)
    rw [List.length_append] at e
    have e' : wrd B q n (l ++ 32 :: rest) k (pre.length + 1) (s && Nat.blt pre.length n && Nat.beq (B (q + pre.length)) c) = bif isWd B q n (pre ++ [c] ++ l) then k else wrd B q n rest (k + 1) 0 true := e
    rw [e', List.append_assoc]
    rfl
theorem wrd_L {n : Nat} : ∀ (t : List (List Nat)) k, (t.all (fun l => l.all isLt)) = true → wrd B q n ((t.map (fun l => l ++ [32])).flatten) k 0 true = wcL B q n t k := by
  intro t
  induction t with
  | nil => intro k _; rfl
  | cons l t ih =>
    intro k h
    rw [List.all_cons, Bool.and_eq_true] at h
    rw [List.map_cons, List.flatten_cons, List.append_assoc]
    have e := wrd_w (B := B) (q := q) (n := n) (rest := (t.map (fun l => l ++ [32])).flatten) (k := k) l [] true h.1 ⟨fun _ => ⟨Nat.zero_le _, fun i hi => absurd hi (Nat.not_lt_zero i)⟩, fun _ => rfl⟩
    rw [ih (k + 1) h.2] at e
    exact e
theorem wrd_code {n : Nat} (h : ∀ i, i < n → isLt (B (q + i)) = true) : wrd B q n strW 200 0 true = wcode (if n ≤ 7 then wlN B q n else 0) := by
  rw [WT_str, wrd_L WT 200 (by decide +kernel), wcL_code h]
/-! numbers -/
theorem cm_v : ∀ n, (∀ i, i < n → isDg (B (q + i)) = true) → (cvN B q n = mvN B q n ∧ mvN B q n ≤ 9999) ∨ (cvN B q n = 10000 ∧ 10000 ≤ mvN B q n ∧ mvN B q n ≤ 100009) := by
  intro n
  induction n with
  | zero => intro _; exact Or.inl ⟨rfl, Nat.zero_le _⟩
  | succ n ih =>
    intro h
    have hd := dg_r (h n (by omega))
    unfold cvN mvN
    rcases ih (fun i hi => h i (by omega)) with ⟨a, b⟩ | ⟨a, b, c⟩
    · rw [if_neg (by omega), a]
      by_cases w : mvN B q n * 10 + (B (q + n) - 48) ≤ 9999
      · left; rw [Nat.min_eq_right (by omega)]; omega
      · right; rw [Nat.min_eq_left (by omega)]; omega
    · right
      rw [a, Nat.min_eq_left (by omega)]
      by_cases w : 10000 < mvN B q n
      · rw [if_pos w]; omega
      · rw [if_neg w]; omega
end LY
