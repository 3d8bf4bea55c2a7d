/-! THE PURE PROOFS: what may change in a query; the invariant between the class and the model -/
/-- fields that a query may change -/
def scF (o k : Nat) : Bool := match o with
  | 1 => Nat.beq k 1 || Nat.beq k 2
  | 12 => Nat.ble 2 k
  | 36 => Nat.beq k 6
  | 43 => true
  | 48 => true
  | 71 => Nat.ble 1 k
  | 78 => Nat.ble 1 k
  | 85 => (Nat.ble 3 k && Nat.ble k 9) || (Nat.ble 23 k && Nat.ble k 27) || Nat.beq k 47 || Nat.beq k 48 || Nat.beq k 83 || Nat.beq k 84 || Nat.beq k 91 || Nat.beq k 92
  | _ => false
/-- arrays that a query may change -/
def scA (o : Nat) : Bool := Nat.beq o 10 || Nat.beq o 11 || Nat.beq o 14 || Nat.beq o 15 || Nat.beq o 16 || (Nat.ble 37 o && Nat.ble o 42) || (Nat.ble 44 o && Nat.ble o 47) || (Nat.ble 49 o && Nat.ble o 59) || Nat.beq o 96 || Nat.beq o 111 || Nat.beq o 112 || Nat.beq o 113 || Nat.beq o 119 || Nat.beq o 120 || Nat.beq o 121
def Off (σ τ : PS) : Prop := XX τ = XX σ ∧ (∀ o k, scF o k = false → FI τ o k = FI σ o k ∧ FL τ o k = FL σ o k) ∧ (∀ o, scA o = false → AI τ o = AI σ o ∧ AL τ o = AL σ o)
theorem off_r {σ : PS} : Off σ σ := ⟨rfl, fun _ _ _ => ⟨rfl, rfl⟩, fun _ _ => ⟨rfl, rfl⟩⟩
theorem off_t {σ τ υ : PS} (h : Off σ τ) (g : Off τ υ) : Off σ υ := ⟨g.1.trans h.1, fun o k q => ⟨(g.2.1 o k q).1.trans (h.2.1 o k q).1, (g.2.1 o k q).2.trans (h.2.1 o k q).2⟩, fun o q => ⟨(g.2.2 o q).1.trans (h.2.2 o q).1, (g.2.2 o q).2.trans (h.2.2 o q).2⟩⟩
theorem off_fi {σ τ : PS} {o k : Nat} {v : Int32} (h : Off σ τ) (q : scF o k = true) : Off σ (wFI τ o k v) := by
  refine off_t h ⟨rfl, fun o' k' q' => ⟨?_, rfl⟩, fun _ _ => ⟨rfl, rfl⟩⟩
  rw [FI_i, if_neg]
  rintro ⟨rfl, rfl⟩
  rw [q] at q'; cases q'
theorem off_fl {σ τ : PS} {o k : Nat} {v : Int64} (h : Off σ τ) (q : scF o k = true) : Off σ (wFL τ o k v) := by
  refine off_t h ⟨rfl, fun o' k' q' => ⟨rfl, ?_⟩, fun _ _ => ⟨rfl, rfl⟩⟩
  rw [FL_l, if_neg]
  rintro ⟨rfl, rfl⟩
  rw [q] at q'; cases q'
theorem off_ai {σ τ : PS} {o k : Nat} {v : Int32} (h : Off σ τ) (q : scA o = true) : Off σ (wAI τ o k v) := by
  refine off_t h ⟨rfl, fun _ _ _ => ⟨rfl, rfl⟩, fun o' q' => ⟨?_, rfl⟩⟩
  funext j
  rw [AI_i, if_neg]
  rintro ⟨rfl, rfl⟩
  rw [q] at q'; cases q'
theorem off_al {σ τ : PS} {o k : Nat} {v : Int64} (h : Off σ τ) (q : scA o = true) : Off σ (wAL τ o k v) := by
  refine off_t h ⟨rfl, fun _ _ _ => ⟨rfl, rfl⟩, fun o' q' => ⟨rfl, ?_⟩⟩
  funext j
  rw [AL_l, if_neg]
  rintro ⟨rfl, rfl⟩
  rw [q] at q'; cases q'
theorem offF {σ τ : PS} (h : Off σ τ) (o k : Nat) (q : scF o k = false) : FI τ o k = FI σ o k := (h.2.1 o k q).1
theorem offL {σ τ : PS} (h : Off σ τ) (o k : Nat) (q : scF o k = false) : FL τ o k = FL σ o k := (h.2.1 o k q).2
theorem offA {σ τ : PS} (h : Off σ τ) (o : Nat) (q : scA o = false) : AI τ o = AI σ o := (h.2.2 o q).1
theorem offB {σ τ : PS} (h : Off σ τ) (o : Nat) (q : scA o = false) : AL τ o = AL σ o := (h.2.2 o q).2
/-! the laws as they are meant: a step is (what, number) as the model writes it -/
abbrev CD : Type := Nat × Nat
/-- a clause: kind (0 to 7), sort, number, steps -/
abbrev CLS : Type := Nat × Nat × Nat × List CD
/-- a law: the year, its clauses -/
abbrev LAW : Type := Nat × List CLS
/-- a step in the class -/
def encC (c : CD) : Nat := match c.1 with
  | 0 => c.2
  | 1 => 10000
  | 2 => 10001
  | 3 => 10002
  | 4 => 10003
  | 5 => 10004
  | 6 => 10010
  | 7 => 10011
  | 8 => 10012
  | 9 => 10013
  | 10 => 10014
  | 11 => 10015
  | 12 => 10016
  | 13 => 10017
  | 14 => 10018
  | 15 => 10020
  | 16 => 10019
  | _ => 10021
/-- what a step does to the kinds of the values on the stack (true: a condition's, 0 or 1) -/
def tyC (t : List Bool) (c : CD) : Option (List Bool) :=
  if c.1 ≤ 5 then (if t.length ≤ 59 ∧ c.2 ≤ 9999 then some (false :: t) else none)
  else if c.1 ≤ 11 then (match t with | false :: false :: r => some (false :: r) | _ => none)
  else if c.1 ≤ 14 then (match t with | false :: false :: r => some (true :: r) | _ => none)
  else if c.1 ≤ 16 then (match t with | true :: true :: r => some (true :: r) | _ => none)
  else if c.1 = 17 then (match t with | true :: r => some (true :: r) | _ => none) else none
def tyA : List Bool → List CD → Option (List Bool)
  | t, [] => some t
  | t, c :: cs => match tyC t c with | some t' => tyA t' cs | none => none
def clC (σ : PS) (r c : Nat) (x : CLS) : Prop := AI σ 4 c = nI (210 + x.1) ∧ AI σ 5 c = (if x.1 ≤ 4 then nI x.2.1 else -1) ∧ AI σ 6 c = nI x.2.2.1 ∧ ∃ st, st + x.2.2.2.length ≤ 400 ∧ AI σ 7 c = nI (400 * r + st) ∧ AI σ 8 c = nI (400 * r + st + x.2.2.2.length) ∧ ∀ j, j < x.2.2.2.length → AI σ 9 (400 * r + st + j) = nI (encC (x.2.2.2.getD j (0, 0)))
def clM (σ : PS) (r c : Nat) (x : CLS) : Prop := AI σ 89 c = nI x.1 ∧ AI σ 90 c = nI (if x.1 ≤ 4 then x.2.1 else 0) ∧ (x.1 = 0 ∨ x.1 = 4 ∨ AI σ 91 c = nI x.2.2.1) ∧ ∃ st, st + x.2.2.2.length ≤ 400 ∧ AI σ 92 c = nI st ∧ AI σ 93 c = nI (st + x.2.2.2.length) ∧ ∀ j, j < x.2.2.2.length → AI σ 94 (400 * r + st + j) = nI (x.2.2.2.getD j (0, 0)).1 ∧ AI σ 95 (400 * r + st + j) = nI (x.2.2.2.getD j (0, 0)).2
def clW (x : CLS) : Prop := x.1 ≤ 7 ∧ x.2.1 ≤ 4 ∧ x.2.2.1 ≤ 9999 ∧ (x.1 = 1 ∨ x.1 = 2 → x.2.2.1 ≤ 100) ∧ (x.1 = 6 → 1 ≤ x.2.2.1 ∧ x.2.2.1 ≤ 50) ∧ (x.1 = 7 → x.2.2.1 ≤ 1) ∧ (x.1 = 0 → tyA [] x.2.2.2 = some [false]) ∧ (x.1 = 4 → x.2.2.2 = [] ∨ tyA [] x.2.2.2 = some [true])
def rowC (σ : PS) (r : Nat) (cs : List CLS) : Prop := cs.length ≤ 16 ∧ AI σ 3 r = nI cs.length ∧ ∀ i, i < cs.length → clC σ r (16 * r + i) (cs.getD i (0, 0, 0, []))
def rowM (σ : PS) (r : Nat) (cs : List CLS) : Prop := cs.length ≤ 16 ∧ AI σ 88 r = nI cs.length ∧ ∀ i, i < cs.length → clM σ r (16 * r + i) (cs.getD i (0, 0, 0, []))
def lawW (x : LAW) : Prop := x.1 ≤ 40 ∧ ∀ c ∈ x.2, clW c
def IL (LS : List LAW) (σ : PS) : Prop := LS.length ≤ 10 ∧ FI σ 85 10 = nI LS.length ∧ FI σ 1 0 = nI LS.length ∧ (∀ x ∈ LS, lawW x) ∧ ∀ r, r < LS.length → AI σ 2 r = nI (LS.getD r (0, [])).1 ∧ AI σ 87 r = nI (LS.getD r (0, [])).1 ∧ rowC σ r (LS.getD r (0, [])).2 ∧ rowM σ r (LS.getD r (0, [])).2
/-! the rest -/
def I0 (σ : PS) : Prop := (∃ n, n ≤ 40 ∧ FI σ 85 1 = nI n ∧ FI σ 0 0 = nI n) ∧ (∃ n, n ≤ 10 ∧ FI σ 85 29 = nI n ∧ FI σ 0 1 = nI n) ∧ FI σ 85 45 = -1 ∧ FI σ 85 22 = nI 0
def IT (σ : PS) : Prop := (∃ n, n ≤ 400 ∧ FI σ 85 2 = nI n ∧ FI σ 12 0 = nI n ∧ ∀ j, j < n → AI σ 13 j = AI σ 86 j ∧ IR 0 255 (AI σ 86 j)) ∧ FI σ 12 1 = FI σ 85 11 ∧ AI σ 88 10 = nI 0
def IP (σ : PS) : Prop := (∃ n, n ≤ 20 ∧ FI σ 85 30 = nI n ∧ FI σ 17 0 = nI n ∧ ∀ j, j < 820 → (j < 41 * n → AI σ 23 j = AI σ 104 j ∧ IR 1 50 (AI σ 104 j)) ∧ (41 * n ≤ j → AI σ 23 j = nI 1)) ∧
  (∀ p, p < 20 → AI σ 18 p = AI σ 97 p ∧ IR 0 9 (AI σ 97 p) ∧ AI σ 19 p = AI σ 98 p ∧ AI σ 20 p = AI σ 99 p ∧ ((AI σ 98 p = nI 0 ∧ AI σ 99 p = nI 0) ∨ ∃ k n, k < n ∧ n ≤ 5 ∧ AI σ 99 p = nI k ∧ AI σ 98 p = nI n)) ∧
  (∀ j, j < 820 → AI σ 21 j = AI σ 102 j ∧ AI σ 22 j = AI σ 103 j ∧ ∃ s a, a ≤ s ∧ s ≤ 1000 ∧ AI σ 102 j = nI s ∧ AI σ 103 j = nI a) ∧
  (∀ j, j < 500 → AI σ 24 j = AI σ 100 j ∧ IR 0 200 (AI σ 100 j)) ∧ (∀ j, j < 100 → AI σ 25 j = AI σ 101 j ∧ IR 0 1000 (AI σ 101 j))
def ID (σ : PS) : Prop := ∃ n, n ≤ 200 ∧ FI σ 85 39 = nI n ∧ FI σ 26 0 = nI n ∧ ∀ j, j < n → ∃ m s y t k, m < 10 ∧ s < 5 ∧ y ≤ 40 ∧ t ≤ 40 ∧ k ≤ 10000000 ∧ AI σ 105 j = nI m ∧ AI σ 106 j = nI s ∧ AI σ 107 j = nI y ∧ AI σ 108 j = nI t ∧ AI σ 109 j = nI k ∧ AI σ 27 j = nI (m * 5 + s) ∧ AI σ 28 j = nI y ∧ AI σ 30 j = nI t ∧ AI σ 29 j = nI k
def IS (σ : PS) : Prop := (∃ n, n ≤ 4 ∧ FI σ 85 52 = nI n ∧ FI σ 31 0 = nI n) ∧ (∃ n, n ≤ 60 ∧ FI σ 85 53 = nI n ∧ FI σ 31 1 = nI n ∧ ∀ j, j < n → AI σ 33 j = AI σ 114 j ∧ IR 0 9 (AI σ 114 j) ∧ AI σ 34 j = AI σ 115 j ∧ IN 4 (AI σ 115 j) ∧ AI σ 35 j = AI σ 116 j ∧ IR 0 40 (AI σ 116 j)) ∧ ∀ c, c < 4 → AI σ 32 c = AI σ 118 c
/-- OUT of a load -/
def outN (k p l : Nat) : Nat := k * p / 100 * (100 - l) / 100
def grdN (p : Nat) : Nat := if p ≤ 5 then 0 else if p ≤ 15 then 1 else if p ≤ 40 then 2 else 3
/-- how many of the first n flags are set -/
noncomputable def cntF (f : Nat → Int32) : Nat → Nat
  | 0 => 0
  | n + 1 => cntF f n + (bif obl (f n = nI 0) then 0 else 1)
def IO_ (σ : PS) : Prop := ∃ n q, n ≤ 60 ∧ q ≤ 100 ∧ FI σ 85 62 = nI n ∧ FI σ 60 0 = nI n ∧ FI σ 85 63 = nI q ∧ FI σ 60 1 = nI q ∧
  (∀ l, l < n → ∃ (t y k u : Nat) (p : Nat → Nat), t < 6 ∧ y ≤ 40 ∧ 1 ≤ k ∧ k ≤ 20000 ∧ u ≤ 50 ∧ AI σ 122 l = nI t ∧ AI σ 63 l = nI t ∧ AI σ 123 l = nI y ∧ AI σ 61 l = nI y ∧ AI σ 124 l = nI k ∧ AI σ 126 l = nI u ∧ AI σ 62 l = nI (grdN (p 4)) ∧ ∀ s, s < 5 → p s ≤ 100 ∧ AI σ 125 (5 * l + s) = nI (p s) ∧ AI σ 64 (5 * l + s) = nI (outN k (p s) u)) ∧
  (∀ i, i < q → AI σ 66 i = AI σ 127 i ∧ IX n (AI σ 127 i) ∧ AI σ 67 i = AI σ 128 i ∧ IX 5 (AI σ 128 i) ∧ AI σ 68 i = AI σ 129 i ∧ IR 1 20000 (AI σ 129 i) ∧ AI σ 69 i = AI σ 130 i ∧ IX 4 (AI σ 130 i) ∧ AI σ 70 i = AI σ 131 i ∧ IR 0 40 (AI σ 131 i) ∧ AI σ 65 i = AI σ 132 i ∧ IX 2 (AI σ 132 i)) ∧
  FI σ 60 2 = nI (cntF (AI σ 132) q)
def IF_ (σ : PS) : Prop := ∃ n, n ≤ 12 ∧ FI σ 85 75 = nI n ∧ FI σ 71 0 = nI n ∧ (∀ i, i < n → AI σ 72 i = AI σ 133 i ∧ IX 5 (AI σ 133 i) ∧ AI σ 73 i = AI σ 134 i ∧ IR 1 100000 (AI σ 134 i) ∧ AI σ 74 i = AI σ 135 i ∧ IR 0 100000 (AI σ 135 i) ∧ ((AI σ 139 i = nI 0 ∧ AI σ 75 i = -1) ∨ (AI σ 139 i = nI 1 ∧ AI σ 75 i = AI σ 136 i ∧ IX 4 (AI σ 136 i) ∧ AI σ 76 i = AI σ 137 i ∧ AI σ 77 i = AI σ 138 i))) ∧ ∀ i, n ≤ i → i < 12 → AI σ 139 i = nI 0
def IM (σ : PS) : Prop := ∃ n, n ≤ 60 ∧ FI σ 85 85 = nI n ∧ FI σ 78 0 = nI n ∧ ∀ j, j < n → ∃ m s y h w, m < 10 ∧ s < 5 ∧ y ≤ 40 ∧ 1 ≤ h ∧ h ≤ 1000 ∧ w ≤ h ∧ AI σ 140 j = nI m ∧ AI σ 141 j = nI s ∧ AI σ 142 j = nI y ∧ AI σ 143 j = nI h ∧ AI σ 144 j = nI w ∧ AI σ 79 j = nI (m * 5 + s) ∧ AI σ 80 j = nI y ∧ AI σ 81 j = nI h ∧ AI σ 82 j = nI w
def IB (σ : PS) : Prop := (∀ j, j < 410 → AL σ 83 j = AL σ 110 j) ∧ ∀ j, j < 205 → AI σ 84 j = AI σ 117 j ∧ IR 0 1000000 (AI σ 117 j)
def Inv (σ : PS) : Prop := I0 σ ∧ IT σ ∧ IP σ ∧ ID σ ∧ IS σ ∧ IO_ σ ∧ IF_ σ ∧ IM σ ∧ IB σ ∧ ∃ LS, IL LS σ
/-- what a call may do to the rest of the state -/
def Kp (σ τ : PS) : Prop := xC (XX τ) ≤ xC (XX σ) + 1 ∧ xC (XX σ) ≤ xC (XX τ) ∧ xS (XX τ) ≤ xS (XX σ) + 6 ∧ xS (XX σ) ≤ xS (XX τ) ∧ xN (XX τ) = xN (XX σ) ∧ xL (XX τ) = xL (XX σ) ∧ AI τ 999 = AI σ 999
/-- class and model give the same answer, or both refuse alike; z: what stands in out[0] -/
def OpV (d e : Nat) (cls mdl : Nat → PS → Option PO) (σ : PS) (ok : Value → Prop) : Prop :=
  ∃ v σ1, ok v ∧ cls d σ = some (.inl (some v, σ1)) ∧ ∀ z, ∃ σ2, mdl e (wAL σ1 145 0 z) = some (.inl (some v, σ2)) ∧ Inv σ2 ∧ AL σ2 145 0 = z ∧ FI σ2 85 0 = nI 0 ∧ Kp σ σ2
def OpE (d e : Nat) (cls mdl : Nat → PS → Option PO) (σ : PS) (ok : Value → Prop) (code : Nat → Nat) : Prop :=
  ∃ E σ1 v σ2, ok v ∧ 1 ≤ E ∧ E ≤ 4 ∧ code E ≠ 0 ∧ code E ≤ 3 ∧ cls d σ = some (.inr (E, σ1)) ∧ mdl e σ1 = some (.inl (some v, σ2)) ∧ Inv σ2 ∧ FI σ2 85 0 = nI (code E) ∧ Kp σ σ2
def isI (v : Value) : Prop := ∃ x, v = .int x
def isZ (v : Value) : Prop := v = .int (nI 0) ∨ v = .int (nI 1)
def isL (v : Value) : Prop := ∃ x, v = .long x
def Op (cls mdl : Nat → PS → Option PO) (σ : PS) (ok : Value → Prop) (code : Nat → Nat) : Prop := ∀ d e, 40 ≤ d → 40 ≤ e → OpV d e cls mdl σ ok ∨ OpE d e cls mdl σ ok code
/-- a query changes nothing of the invariant -/
theorem IL_off {σ τ : PS} {LS : List LAW} (h : Off σ τ) (g : IL LS σ) : IL LS τ := by
  unfold IL rowC rowM clC clM at g ⊢
  rw [offF h 85 10 rfl, offF h 1 0 rfl, offA h 2 rfl, offA h 87 rfl, offA h 3 rfl, offA h 4 rfl, offA h 5 rfl, offA h 6 rfl, offA h 7 rfl, offA h 8 rfl, offA h 9 rfl, offA h 88 rfl, offA h 89 rfl, offA h 90 rfl, offA h 91 rfl, offA h 92 rfl, offA h 93 rfl, offA h 94 rfl, offA h 95 rfl]
  exact g
theorem Inv_off {σ τ : PS} (h : Off σ τ) (g : Inv σ) : Inv τ := by
  obtain ⟨h0, hT, hP, hD, hS, hO, hF, hM, hB, LS, hL⟩ := g
  refine ⟨?_, ?_, ?_, ?_, ?_, ?_, ?_, ?_, ?_, LS, IL_off h hL⟩
  · unfold I0 at h0 ⊢
    rw [offF h 85 1 rfl, offF h 0 0 rfl, offF h 85 29 rfl, offF h 0 1 rfl, offF h 85 45 rfl, offF h 85 22 rfl]; exact h0
  · unfold IT at hT ⊢
    rw [offF h 85 2 rfl, offF h 12 0 rfl, offF h 12 1 rfl, offF h 85 11 rfl, offA h 13 rfl, offA h 86 rfl, offA h 88 rfl]; exact hT
  · unfold IP at hP ⊢
    rw [offF h 85 30 rfl, offF h 17 0 rfl, offA h 18 rfl, offA h 19 rfl, offA h 20 rfl, offA h 21 rfl, offA h 22 rfl, offA h 23 rfl, offA h 24 rfl, offA h 25 rfl, offA h 97 rfl, offA h 98 rfl, offA h 99 rfl, offA h 100 rfl, offA h 101 rfl, offA h 102 rfl, offA h 103 rfl, offA h 104 rfl]; exact hP
  · unfold ID at hD ⊢
    rw [offF h 85 39 rfl, offF h 26 0 rfl, offA h 27 rfl, offA h 28 rfl, offA h 29 rfl, offA h 30 rfl, offA h 105 rfl, offA h 106 rfl, offA h 107 rfl, offA h 108 rfl, offA h 109 rfl]; exact hD
  · unfold IS at hS ⊢
    rw [offF h 85 52 rfl, offF h 31 0 rfl, offF h 85 53 rfl, offF h 31 1 rfl, offA h 32 rfl, offA h 33 rfl, offA h 34 rfl, offA h 35 rfl, offA h 114 rfl, offA h 115 rfl, offA h 116 rfl, offA h 118 rfl]; exact hS
  · unfold IO_ at hO ⊢
    rw [offF h 85 62 rfl, offF h 60 0 rfl, offF h 85 63 rfl, offF h 60 1 rfl, offF h 60 2 rfl, offA h 61 rfl, offA h 62 rfl, offA h 63 rfl, offA h 64 rfl, offA h 65 rfl, offA h 66 rfl, offA h 67 rfl, offA h 68 rfl, offA h 69 rfl, offA h 70 rfl, offA h 122 rfl, offA h 123 rfl, offA h 124 rfl, offA h 125 rfl, offA h 126 rfl, offA h 127 rfl, offA h 128 rfl, offA h 129 rfl, offA h 130 rfl, offA h 131 rfl, offA h 132 rfl]; exact hO
  · unfold IF_ at hF ⊢
    rw [offF h 85 75 rfl, offF h 71 0 rfl, offA h 72 rfl, offA h 73 rfl, offA h 74 rfl, offA h 75 rfl, offA h 76 rfl, offA h 77 rfl, offA h 133 rfl, offA h 134 rfl, offA h 135 rfl, offA h 136 rfl, offA h 137 rfl, offA h 138 rfl, offA h 139 rfl]; exact hF
  · unfold IM at hM ⊢
    rw [offF h 85 85 rfl, offF h 78 0 rfl, offA h 79 rfl, offA h 80 rfl, offA h 81 rfl, offA h 82 rfl, offA h 140 rfl, offA h 141 rfl, offA h 142 rfl, offA h 143 rfl, offA h 144 rfl]; exact hM
  · unfold IB at hB ⊢
    rw [offB h 83 rfl, offB h 110 rfl, offA h 84 rfl, offA h 117 rfl]; exact hB
theorem Kp_off {σ τ : PS} (h : Off σ τ) : Kp σ τ := by
  unfold Kp
  rw [h.1, offA h 999 rfl]
  exact ⟨by omega, by omega, by omega, by omega, rfl, rfl, rfl⟩
/-- an exception's cell, and what stands in out[0], are no part of it -/
theorem Inv_th {σ : PS} (h : Inv σ) : Inv (thF σ) := h
theorem Inv_o {σ : PS} {z : Int64} (h : Inv σ) : Inv (wAL σ 145 0 z) := by
  obtain ⟨h0, hT, hP, hD, hS, hO, hF, hM, hB, LS, hL⟩ := h
  refine ⟨h0, hT, hP, hD, hS, hO, hF, hM, ⟨fun j hj => ?_, hB.2⟩, LS, hL⟩
  have := hB.1 j hj
  rw [AL_l, if_neg (by omega), AL_l, if_neg (by omega)]
  exact this
theorem Inv_tn {σ : PS} {v : Int32} (h : Inv σ) : Inv (wFI σ 85 0 v) := h
/-! ends of an op -/
theorem z00 : obl (nI 0 = nI 0) = true := obl_t rfl
theorem z10 : obl (nI 1 = nI 0) = false := obl_f nI_10
theorem inbT {k n : Nat} (h : k < n) (hn : n < 2 ^ 31) : inb (nI k) n = true := by rw [inb_nI (by omega), decide_eq_true h]
theorem oltT {a b : Nat} (h : a < b) (hb : b < 2 ^ 31) : obl (nI a < nI b) = true := obl_t (nI_lt h hb)
theorem oltF {a b : Nat} (h : b ≤ a) (ha : a < 2 ^ 31) : obl (nI a < nI b) = false := obl_f (nI_nlt h ha)
theorem oleT {a b : Nat} (h : a ≤ b) (hb : b < 2 ^ 31) : obl (nI a ≤ nI b) = true := obl_t (nI_le h hb)
theorem oleF {a b : Nat} (h : b < a) (ha : a < 2 ^ 31) : obl (nI a ≤ nI b) = false := obl_f (nI_ge h ha)
theorem oeqT {a b : Nat} (h : a = b) : obl (nI a = nI b) = true := obl_t (by rw [h])
theorem oeqF {a b : Nat} (h : a ≠ b) (ha : a < 2 ^ 31) (hb : b < 2 ^ 31) : obl (nI a = nI b) = false := obl_f (fun q => h ((nI_eq ha hb).mp q))
theorem aft_x1 {ini : Bool} {d k nx : Nat} {ls : List (Option Value)} {t : List Value} {E : Nat} {σ : PS} : hnd k E = 0 → aft ini d k nx ls t (some (.inr (E, σ))) = some (.inr (E, σ)) := aft_x
theorem Kp_th {σ : PS} {a b : Int32} : Kp σ (wFI (wFI (thF σ) 85 0 a) 85 0 b) := ⟨Nat.le_refl _, Nat.le_succ _, Nat.le_refl _, Nat.le_add_right _ _, rfl, rfl, rfl⟩
theorem FI_q0 {σ : PS} {o k : Nat} {v : Int32} : FI (wFI σ o k v) o k = v := by rw [FI_i, if_pos ⟨rfl, rfl⟩]
theorem opE_of {cls mdl : Nat → PS → Option PO} {σ : PS} {ok : Value → Prop} {code : Nat → Nat} (hI : Inv σ) (E c : Nat) (v : Value) (hv : ok v) (hE : 1 ≤ E ∧ E ≤ 4) (hc : code E = c) (hc2 : c ≠ 0 ∧ c ≤ 3) (h1 : ∀ d, cls (d + 40) σ = some (.inr (E, thF σ))) (h2 : ∀ d, mdl (d + 40) (thF σ) = some (.inl (some v, wFI (wFI (thF σ) 85 0 (nI 0)) 85 0 (nI c)))) : Op cls mdl σ ok code := by
  subst hc
  intro d e hd he
  obtain ⟨d, rfl⟩ : ∃ z, d = z + 40 := ⟨d - 40, by omega⟩
  obtain ⟨e, rfl⟩ : ∃ z, e = z + 40 := ⟨e - 40, by omega⟩
  exact Or.inr ⟨E, thF σ, v, wFI (wFI (thF σ) 85 0 (nI 0)) 85 0 (nI (code E)), hv, hE.1, hE.2, hc2.1, hc2.2, h1 d, h2 e, Inv_tn (Inv_tn (Inv_th hI)), rfl, Kp_th⟩
theorem opV_of {cls mdl : Nat → PS → Option PO} {σ : PS} {ok : Value → Prop} {code : Nat → Nat} (v : Value) (σ1 : PS) (σ2 : Int64 → PS) (hv : ok v) (h1 : ∀ d, cls (d + 40) σ = some (.inl (some v, σ1))) (h2 : ∀ z d, mdl (d + 40) (wAL σ1 145 0 z) = some (.inl (some v, σ2 z))) (hI : ∀ z, Inv (σ2 z)) (ho : ∀ z, AL (σ2 z) 145 0 = z) (ht : ∀ z, FI (σ2 z) 85 0 = nI 0) (hK : ∀ z, Kp σ (σ2 z)) : Op cls mdl σ ok code := by
  intro d e hd he
  obtain ⟨d, rfl⟩ : ∃ z, d = z + 40 := ⟨d - 40, by omega⟩
  obtain ⟨e, rfl⟩ : ∃ z, e = z + 40 := ⟨e - 40, by omega⟩
  exact Or.inl ⟨v, σ1, hv, h1 d, fun z => ⟨σ2 z, h2 z e, hI z, ho z, ht z, hK z⟩⟩
/-- a query: nothing of the invariant changes -/
theorem opQ_of {cls mdl : Nat → PS → Option PO} {σ : PS} {ok : Value → Prop} {code : Nat → Nat} (hI : Inv σ) (v : Value) (hv : ok v) (h1 : ∀ d, ∃ σ1, Off σ σ1 ∧ cls (d + 40) σ = some (.inl (some v, σ1))) (h2 : ∀ σ1 z e, Off σ σ1 → ∃ τ, Off (wFI (wAL σ1 145 0 z) 85 0 (nI 0)) τ ∧ mdl (e + 40) (wAL σ1 145 0 z) = some (.inl (some v, τ))) : Op cls mdl σ ok code := by
  intro d e hd he
  obtain ⟨d, rfl⟩ : ∃ z, d = z + 40 := ⟨d - 40, by omega⟩
  obtain ⟨e, rfl⟩ : ∃ z, e = z + 40 := ⟨e - 40, by omega⟩
  obtain ⟨σ1, a1, a2⟩ := h1 d
  refine Or.inl ⟨v, σ1, hv, a2, fun z => ?_⟩
  obtain ⟨τ, b1, b2⟩ := h2 σ1 z e a1
  refine ⟨τ, b2, Inv_off b1 (Inv_tn (Inv_o (Inv_off a1 hI))), ?_, (offF b1 85 0 rfl).trans FI_q0, ?_⟩
  · rw [offB b1 145 rfl, AL_f, AL_l, if_pos ⟨rfl, rfl⟩]
  · have k1 := Kp_off a1
    have k2 := Kp_off b1
    unfold Kp at k1 k2 ⊢
    rw [b1.1, offA b1 999 rfl]
    exact k1
theorem Kp_eq {σ τ : PS} (h : XX τ = XX σ) (h9 : AI τ 999 = AI σ 999) : Kp σ τ := by
  unfold Kp
  rw [h, h9]
  exact ⟨by omega, by omega, by omega, by omega, rfl, rfl, rfl⟩
/-! reads, by places -/
theorem AI_q {σ : PS} {o k : Nat} {v : Int32} : AI (wAI σ o k v) o k = v := by rw [AI_i, if_pos ⟨rfl, rfl⟩]
theorem AI_n {σ : PS} {o k o' k' : Nat} {v : Int32} (h : o' ≠ o ∨ k' ≠ k) : AI (wAI σ o k v) o' k' = AI σ o' k' := by rw [AI_i, if_neg (by omega)]
theorem AL_q {σ : PS} {o k : Nat} {v : Int64} : AL (wAL σ o k v) o k = v := by rw [AL_l, if_pos ⟨rfl, rfl⟩]
theorem AL_n {σ : PS} {o k o' k' : Nat} {v : Int64} (h : o' ≠ o ∨ k' ≠ k) : AL (wAL σ o k v) o' k' = AL σ o' k' := by rw [AL_l, if_neg (by omega)]
theorem FI_q {σ : PS} {o k : Nat} {v : Int32} : FI (wFI σ o k v) o k = v := by rw [FI_i, if_pos ⟨rfl, rfl⟩]
theorem FI_n {σ : PS} {o k o' k' : Nat} {v : Int32} (h : o' ≠ o ∨ k' ≠ k) : FI (wFI σ o k v) o' k' = FI σ o' k' := by rw [FI_i, if_neg (by omega)]
theorem FL_q {σ : PS} {o k : Nat} {v : Int64} : FL (wFL σ o k v) o k = v := by rw [FL_l, if_pos ⟨rfl, rfl⟩]
theorem FL_n {σ : PS} {o k o' k' : Nat} {v : Int64} (h : o' ≠ o ∨ k' ≠ k) : FL (wFL σ o k v) o' k' = FL σ o' k' := by rw [FL_l, if_neg (by omega)]
theorem AI_ff {σ : PS} {o k o' k' : Nat} {v : Int32} : AI (wFI σ o k v) o' k' = AI σ o' k' := rfl
theorem AI_fl {σ : PS} {o k o' k' : Nat} {v : Int64} : AI (wFL σ o k v) o' k' = AI σ o' k' := rfl
theorem AI_la {σ : PS} {o k o' k' : Nat} {v : Int64} : AI (wAL σ o k v) o' k' = AI σ o' k' := rfl
theorem AI_tt {σ : PS} {o' k' : Nat} : AI (thF σ) o' k' = AI σ o' k' := rfl
theorem FI_aa {σ : PS} {o k o' k' : Nat} {v : Int32} : FI (wAI σ o k v) o' k' = FI σ o' k' := rfl
theorem FI_la {σ : PS} {o k o' k' : Nat} {v : Int64} : FI (wAL σ o k v) o' k' = FI σ o' k' := rfl
theorem FI_fl {σ : PS} {o k o' k' : Nat} {v : Int64} : FI (wFL σ o k v) o' k' = FI σ o' k' := rfl
theorem FI_tt {σ : PS} {o' k' : Nat} : FI (thF σ) o' k' = FI σ o' k' := rfl
theorem AL_ff {σ : PS} {o k o' k' : Nat} {v : Int32} : AL (wFI σ o k v) o' k' = AL σ o' k' := rfl
theorem AL_aa {σ : PS} {o k o' k' : Nat} {v : Int32} : AL (wAI σ o k v) o' k' = AL σ o' k' := rfl
theorem AL_fw {σ : PS} {o k o' k' : Nat} {v : Int64} : AL (wFL σ o k v) o' k' = AL σ o' k' := rfl
theorem AL_tt {σ : PS} {o' k' : Nat} : AL (thF σ) o' k' = AL σ o' k' := rfl
theorem FL_ff {σ : PS} {o k o' k' : Nat} {v : Int32} : FL (wFI σ o k v) o' k' = FL σ o' k' := rfl
theorem FL_aa {σ : PS} {o k o' k' : Nat} {v : Int32} : FL (wAI σ o k v) o' k' = FL σ o' k' := rfl
theorem FL_la {σ : PS} {o k o' k' : Nat} {v : Int64} : FL (wAL σ o k v) o' k' = FL σ o' k' := rfl
theorem FL_tt {σ : PS} {o' k' : Nat} : FL (thF σ) o' k' = FL σ o' k' := rfl
theorem c50_t {d p n : Nat} {σ : PS} {a : Int32} (hd : 2 ≤ d) (hp : p < 20) (e : AI σ 19 p = nI n) (h : IX n a) (hn : n < 2 ^ 31) : Run false d 50 0 [some (.ref 0), some (.int (nI p)), some (.int a)] [] σ = some (.inl (none, σ)) := by
  obtain ⟨d, rfl⟩ := dS (show 1 ≤ d by omega)
  obtain ⟨d, rfl⟩ := dS (show 1 ≤ d by omega)
  rw [← ix_iff2 hn] at h
  rw [s50_0, inbT hp (by decide), nI_clamp (by omega), e, s42_0, obl_f h.1, obl_t (show a ≤ nI n - nI 1 by rw [Int32.le_iff_toInt_le]; have := h.2; rw [Int32.lt_iff_toInt_lt] at this; omega)]
  show aft _ _ _ _ _ _ _ = _
  simp only [cond_true, cond_false]
  rw [aft_n, s50_16]
theorem c50_f {d p n : Nat} {σ : PS} {a : Int32} (hd : 2 ≤ d) (hp : p < 20) (e : AI σ 19 p = nI n) (h : ¬ IX n a) (hn : n < 2 ^ 31) : Run false d 50 0 [some (.ref 0), some (.int (nI p)), some (.int a)] [] σ = some (.inr (1, thF σ)) := by
  obtain ⟨d, rfl⟩ := dS (show 1 ≤ d by omega)
  obtain ⟨d, rfl⟩ := dS (show 1 ≤ d by omega)
  rw [← ix_iff2 hn] at h
  rw [s50_0, inbT hp (by decide), nI_clamp (by omega), e, s42_0]
  show aft _ _ _ _ _ _ _ = _
  by_cases q : a < nI 0
  · rw [obl_t q, cond_true, aft_x rfl]
  · rw [obl_f q, cond_false, obl_f (fun z => h ⟨q, by rw [Int32.le_iff_toInt_le] at z; rw [Int32.lt_iff_toInt_lt]; omega⟩), cond_false, aft_x rfl]
theorem nI_20 : ¬ nI 2 = nI 0 := by decide +kernel
theorem nI_30 : ¬ nI 3 = nI 0 := by decide +kernel
theorem oTr : obl True = true := obl_t trivial
theorem oFa : obl False = false := obl_f id
theorem nI_s1 {n : Nat} : nI (n + 1) - nI 1 = nI n := nI_sub (Nat.le_add_left 1 n)
theorem hnd_all : (List.range 268).all (fun k => (List.range 5).all (fun E => Nat.beq (hnd k E) 0)) = true := by decide +kernel
theorem hnd_0 {k E : Nat} (h : k < 268) (h2 : E < 5) : hnd k E = 0 := Nat.eq_of_beq_eq_true (List.all_eq_true.mp (List.all_eq_true.mp hnd_all k (List.mem_range.mpr h)) E (List.mem_range.mpr h2))
theorem aft_x2 {ini : Bool} {d k nx : Nat} {ls : List (Option Value)} {t : List Value} {E : Nat} {σ : PS} (h : k < 268) (h2 : E < 5) : aft ini d k nx ls t (some (.inr (E, σ))) = some (.inr (E, σ)) := aft_x (hnd_0 h h2)
