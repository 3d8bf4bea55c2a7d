/-! THE PURE PROOFS: sets of offers as numbers; the search that goes deep first finds what the search through all finds -/
def bt (X i : Nat) : Nat := X / 2 ^ i % 2
theorem bt_le {X i : Nat} : bt X i ≤ 1 := by unfold bt; omega
theorem bt_0 {X i : Nat} (h : X < 2 ^ i) : bt X i = 0 := by unfold bt; rw [Nat.div_eq_of_lt h]
theorem bt_hi {X i j : Nat} (h : X < 2 ^ i) (hj : i ≤ j) : bt X j = 0 := bt_0 (Nat.lt_of_lt_of_le h (Nat.pow_le_pow_right (by decide) hj))
theorem bt_lo {X i j m : Nat} (hj : j < i) : bt (X + 2 ^ i * m) j = bt X j := by
  unfold bt
  have e : 2 ^ i * m = 2 ^ j * (2 * (2 ^ (i - j - 1) * m)) := by
    have : i = j + (1 + (i - j - 1)) := by omega
    rw [this, Nat.pow_add, Nat.pow_add, Nat.pow_one, show j + (1 + (i - j - 1)) - j - 1 = i - j - 1 by omega, Nat.mul_assoc, Nat.mul_assoc]
  rw [e, Nat.add_mul_div_left _ _ (Nat.pow_pos (by decide))]
  omega
theorem bt_up {X i j m : Nat} (h : X < 2 ^ i) : bt (X + 2 ^ i * m) (i + j) = bt m j := by
  unfold bt
  rw [Nat.pow_add, ← Nat.div_div_eq_div_mul, Nat.add_mul_div_left _ _ (Nat.pow_pos (by decide)), Nat.div_eq_of_lt h, Nat.zero_add]
theorem bt_half {X j : Nat} : bt (X / 2) j = bt X (j + 1) := by
  unfold bt
  rw [Nat.div_div_eq_div_mul, Nat.pow_succ, Nat.mul_comm 2]
theorem bits_inj : ∀ n X Y, X < 2 ^ n → Y < 2 ^ n → (∀ j, j < n → bt X j = bt Y j) → X = Y := by
  intro n
  induction n with
  | zero =>
    intro X Y h1 h2 _
    have : (2 : Nat) ^ 0 = 1 := rfl
    omega
  | succ n ih =>
    intro X Y h1 h2 h
    have e := ih (X / 2) (Y / 2) (by rw [Nat.pow_succ] at h1; omega) (by rw [Nat.pow_succ] at h2; omega) (fun j hj => by rw [bt_half, bt_half]; exact h (j + 1) (by omega))
    have h0 := h 0 (by omega)
    unfold bt at h0
    rw [Nat.pow_zero, Nat.div_one, Nat.div_one] at h0
    omega
theorem sumN_mono {f g : Nat → Nat} : ∀ n, (∀ i, i < n → f i ≤ g i) → sumN f n ≤ sumN g n := by
  intro n
  induction n with
  | zero => intro _; exact Nat.le_refl _
  | succ n ih => intro h; exact Nat.add_le_add (ih (fun i hi => h i (by omega))) (h n (by omega))
theorem sumN_eqs {f g : Nat → Nat} : ∀ n, (∀ i, i < n → f i ≤ g i) → sumN g n ≤ sumN f n → ∀ i, i < n → f i = g i := by
  intro n
  induction n with
  | zero => intro _ _ i hi; omega
  | succ n ih =>
    intro h e i hi
    have h1 : sumN g n + g n ≤ sumN f n + f n := e
    have h2 := sumN_mono n (fun i hi => h i (by omega))
    have h3 := h n (by omega)
    rcases Nat.lt_or_ge i n with q | q
    · exact ih (fun i hi => h i (by omega)) (by omega) i q
    · have : i = n := by omega
      subst this
      omega
theorem sumN_one {v i : Nat} : ∀ n, sumN (fun j => if j = i then v else 0) n = if i < n then v else 0 := by
  intro n
  induction n with
  | zero => rw [if_neg (by omega)]; rfl
  | succ n ih =>
    show sumN (fun j => if j = i then v else 0) n + (if n = i then v else 0) = _
    rw [ih]
    by_cases q : n = i
    · rw [if_pos q, if_neg (by omega), if_pos (by omega), Nat.zero_add]
    · rw [if_neg q]
      by_cases w : i < n
      · rw [if_pos w, if_pos (by omega), Nat.add_zero]
      · rw [if_neg w, if_neg (by omega)]
theorem sumN_add {f h : Nat → Nat} : ∀ m, sumN (fun s => f s + h s) m = sumN f m + sumN h m := by
  intro m
  induction m with
  | zero => rfl
  | succ m ih =>
    show sumN (fun s => f s + h s) m + (f m + h m) = sumN f m + f m + (sumN h m + h m)
    omega
/-- what a set comes to -/
def smB (f : Nat → Nat) (n X : Nat) : Nat := sumN (fun j => bt X j * f j) n
theorem smB_0 {f : Nat → Nat} {n : Nat} : smB f n 0 = 0 := by
  have : smB f n 0 ≤ n * 0 := sumN_le n (fun i _ => by
    rw [bt_hi (i := 0) (by decide) (Nat.zero_le i), Nat.zero_mul]
    exact Nat.le_refl _)
  omega
theorem smB_add {f : Nat → Nat} {n i X : Nat} (h : X < 2 ^ i) (hi : i < n) : smB f n (X + 2 ^ i) = smB f n X + f i := by
  have e : ∀ j, j < n → bt (X + 2 ^ i) j * f j = bt X j * f j + (if j = i then f i else 0) := by
    intro j hj
    have e1 : X + 2 ^ i = X + 2 ^ i * 1 := by rw [Nat.mul_one]
    rw [e1]
    rcases Nat.lt_or_ge j i with q | q
    · rw [bt_lo q, if_neg (by omega), Nat.add_zero]
    · obtain ⟨t, rfl⟩ : ∃ t, j = i + t := ⟨j - i, by omega⟩
      rw [bt_up h, bt_hi h (by omega), Nat.zero_mul, Nat.zero_add]
      by_cases w : t = 0
      · subst w
        rw [if_pos (Nat.add_zero i)]
        show 1 * f (i + 0) = f i
        rw [Nat.one_mul, Nat.add_zero]
      · rw [if_neg (by omega), bt_hi (i := 1) (by decide) (by omega), Nat.zero_mul]
  show sumN (fun j => bt (X + 2 ^ i) j * f j) n = sumN (fun j => bt X j * f j) n + f i
  rw [sumN_c n e, sumN_add, sumN_one, if_pos hi]
theorem bt_mono {X i j m : Nat} (h : X < 2 ^ i) : bt X j ≤ bt (X + 2 ^ i * m) j := by
  rcases Nat.lt_or_ge j i with q | q
  · rw [bt_lo q]; exact Nat.le_refl _
  · rw [bt_hi h q]; exact Nat.zero_le _
theorem smB_mono {f : Nat → Nat} {n i X m : Nat} (h : X < 2 ^ i) : smB f n X ≤ smB f n (X + 2 ^ i * m) := sumN_mono n (fun j _ => Nat.mul_le_mul_right _ (bt_mono h))
theorem smB_lt {f : Nat → Nat} {n i X m : Nat} (h : X < 2 ^ i) (hi : i ≤ n) (hz : X + 2 ^ i * m < 2 ^ n) (hf : ∀ j, j < n → 1 ≤ f j) (hm : 0 < m) : smB f n X < smB f n (X + 2 ^ i * m) := by
  refine Nat.lt_of_not_le (fun w => ?_)
  have e := sumN_eqs n (fun j _ => Nat.mul_le_mul_right (f j) (bt_mono (m := m) h)) w
  have e2 : ∀ j, j < n → bt X j = bt (X + 2 ^ i * m) j := fun j hj => Nat.eq_of_mul_eq_mul_right (hf j hj) (e j hj)
  have e3 := bits_inj n X (X + 2 ^ i * m) (by omega) hz e2
  have : 0 < 2 ^ i * m := Nat.mul_pos (Nat.pow_pos (by decide)) hm
  omega
/-- a set's bits the other way round: the greater, the more ahead -/
def rvN : Nat → Nat → Nat
  | 0, _ => 0
  | j + 1, X => 2 * rvN j X + bt X j
theorem rv_c {X Y : Nat} : ∀ n, (∀ j, j < n → bt X j = bt Y j) → rvN n X = rvN n Y := by
  intro n
  induction n with
  | zero => intro _; rfl
  | succ n ih =>
    intro h
    show 2 * rvN n X + bt X n = 2 * rvN n Y + bt Y n
    rw [ih (fun j hj => h j (by omega)), h n (by omega)]
theorem rv_bits {X Y : Nat} : ∀ n, rvN n X = rvN n Y → ∀ j, j < n → bt X j = bt Y j := by
  intro n
  induction n with
  | zero => intro _ j hj; omega
  | succ n ih =>
    intro h j hj
    have h1 : 2 * rvN n X + bt X n = 2 * rvN n Y + bt Y n := h
    have b1 := bt_le (X := X) (i := n)
    have b2 := bt_le (X := Y) (i := n)
    rcases Nat.lt_or_ge j n with q | q
    · exact ih (by omega) j q
    · have : j = n := by omega
      subst this
      omega
theorem rv_inj {n X Y : Nat} (h1 : X < 2 ^ n) (h2 : Y < 2 ^ n) (h : rvN n X = rvN n Y) : X = Y := bits_inj n X Y h1 h2 (rv_bits n h)
theorem rv_br {X Y Z i n : Nat} (h : ∀ j, j < i → bt Y j = bt Z j) (hy : bt Y i = 1) (hz : bt Z i = 0) (hi : i < n) : rvN n Z < rvN n Y := by
  have key : ∀ t, rvN (i + 1 + t) Z < rvN (i + 1 + t) Y := by
    intro t
    induction t with
    | zero =>
      show 2 * rvN i Z + bt Z i < 2 * rvN i Y + bt Y i
      rw [rv_c i h, hy, hz]
      omega
    | succ t ih =>
      show 2 * rvN (i + 1 + t) Z + bt Z (i + 1 + t) < 2 * rvN (i + 1 + t) Y + bt Y (i + 1 + t)
      have b1 := bt_le (X := Z) (i := i + 1 + t)
      omega
  have := key (n - (i + 1))
  rw [show i + 1 + (n - (i + 1)) = n by omega] at this
  exact this
/-! the searches -/
section SE
variable (p k : Nat → Nat) (g : Nat → Bool) (n E : Nat)
/-- one set is better than another -/
def ltB (X Y : Nat) : Prop := smB p n X < smB p n Y ∨ smB p n X = smB p n Y ∧ (smB k n X < smB k n Y ∨ smB k n X = smB k n Y ∧ rvN n Y < rvN n X)
def gdB (X : Nat) : Prop := ∀ j, j < n → bt X j = 1 → g j = true
def vlB (X : Nat) : Prop := gdB g n X ∧ E ≤ smB k n X
/-- the search through all sets below M -/
noncomputable def mdB : Nat → Option Nat
  | 0 => none
  | X + 1 => bif obl (vlB k g n E X) then (match mdB X with | none => some X | some Y => bif obl (ltB p k n X Y) then some X else some Y) else mdB X
def prB (b : Option Nat) (X : Nat) : Bool := match b with | none => false | some Y => Nat.blt (smB p n Y) (smB p n X)
def upB (b : Option Nat) (X : Nat) : Option Nat := match b with | none => some X | some Y => bif Nat.blt (smB p n X) (smB p n Y) || Nat.blt (smB k n X) (smB k n Y) then some X else some Y
/-- the search that goes deep first; r offers are left -/
def dfs : Nat → Nat → Option Nat → Option Nat
  | 0, X, b => bif prB p n b X then b else (bif Nat.ble E (smB k n X) then upB p k n b X else b)
  | r + 1, X, b => bif prB p n b X then b else (bif Nat.ble E (smB k n X) then upB p k n b X else dfs r X (bif g (n - (r + 1)) then dfs r (X + 2 ^ (n - (r + 1))) b else b))
def SbB (r X Z : Nat) : Prop := ∃ m, Z = X + 2 ^ (n - r) * m ∧ Z < 2 ^ n
variable {p k g n E}
theorem md_ok : ∀ M, (mdB p k g n E M = none → ∀ Z, Z < M → ¬ vlB k g n E Z) ∧ ∀ Y, mdB p k g n E M = some Y → Y < M ∧ vlB k g n E Y ∧ ∀ Z, Z < M → vlB k g n E Z → ¬ ltB p k n Z Y := by
  intro M
  induction M with
  | zero => exact ⟨fun _ Z hZ => absurd hZ (by omega), fun Y h => by cases h⟩
  | succ M ih =>
    obtain ⟨i1, i2⟩ := ih
    by_cases v : vlB k g n E M
    · have e : mdB p k g n E (M + 1) = (match mdB p k g n E M with | none => some M | some Y => bif obl (ltB p k n M Y) then some M else some Y) := by
        show (bif obl (vlB k g n E M) then _ else _) = _
        rw [obl_t v]; rfl
      rw [e]
      cases hb : mdB p k g n E M with
      | none =>
        refine ⟨fun h => (by cases h), fun Y h => ?_⟩
        injection h with h
        subst h
        refine ⟨Nat.lt_succ_self _, v, fun Z hZ vZ => ?_⟩
        rcases Nat.lt_or_ge Z M with q | q
        · exact absurd vZ (i1 hb Z q)
        · have : Z = M := by omega
          subst this
          unfold ltB; omega
      | some Y0 =>
        obtain ⟨j1, j2, j3⟩ := i2 Y0 hb
        by_cases l : ltB p k n M Y0
        · show ((bif obl (ltB p k n M Y0) then some M else some Y0) = none → _) ∧ ∀ Y, (bif obl (ltB p k n M Y0) then some M else some Y0) = some Y → _
          rw [obl_t l]
          refine ⟨fun h => (by cases h), fun Y h => ?_⟩
          injection h with h
          subst h
          refine ⟨Nat.lt_succ_self _, v, fun Z hZ vZ => ?_⟩
          rcases Nat.lt_or_ge Z M with q | q
          · have := j3 Z q vZ
            unfold ltB at *; omega
          · have : Z = M := by omega
            subst this
            unfold ltB; omega
        · show ((bif obl (ltB p k n M Y0) then some M else some Y0) = none → _) ∧ ∀ Y, (bif obl (ltB p k n M Y0) then some M else some Y0) = some Y → _
          rw [obl_f l]
          refine ⟨fun h => (by cases h), fun Y h => ?_⟩
          injection h with h
          subst h
          refine ⟨by omega, j2, fun Z hZ vZ => ?_⟩
          rcases Nat.lt_or_ge Z M with q | q
          · exact j3 Z q vZ
          · have : Z = M := by omega
            subst this
            exact l
    · have e : mdB p k g n E (M + 1) = mdB p k g n E M := by
        show (bif obl (vlB k g n E M) then _ else _) = _
        rw [obl_f v]; rfl
      rw [e]
      refine ⟨fun h Z hZ => ?_, fun Y h => ?_⟩
      · rcases Nat.lt_or_ge Z M with q | q
        · exact i1 h Z q
        · have : Z = M := by omega
          subst this; exact v
      · obtain ⟨j1, j2, j3⟩ := i2 Y h
        refine ⟨by omega, j2, fun Z hZ vZ => ?_⟩
        rcases Nat.lt_or_ge Z M with q | q
        · exact j3 Z q vZ
        · have : Z = M := by omega
          subst this; exact absurd vZ v
def PreB (r X : Nat) (b : Option Nat) : Prop := ∀ Y, b = some Y → Y < 2 ^ n ∧ vlB k g n E Y ∧ ∀ Z, SbB n r X Z → rvN n Z < rvN n Y
def PstB (r X : Nat) (b b' : Option Nat) : Prop := (b' = none → b = none ∧ ∀ Z, SbB n r X Z → ¬ vlB k g n E Z) ∧ ∀ Y', b' = some Y' → Y' < 2 ^ n ∧ vlB k g n E Y' ∧ (b = some Y' ∨ SbB n r X Y') ∧ (∀ Y, b = some Y → ¬ ltB p k n Y Y') ∧ ∀ Z, SbB n r X Z → vlB k g n E Z → ¬ ltB p k n Z Y'
/-- pruned: dearer than the best -/
theorem pst_pr {r X Y : Nat} (hX : X < 2 ^ (n - r)) (hp : PreB (k := k) (g := g) (n := n) (E := E) r X (some Y)) (h : smB p n Y < smB p n X) : PstB (p := p) (k := k) (g := g) (n := n) (E := E) r X (some Y) (some Y) := by
  obtain ⟨h1, h2, h3⟩ := hp Y rfl
  refine ⟨fun q => (by cases q), fun Y' q => ?_⟩
  injection q with q
  subst q
  refine ⟨h1, h2, Or.inl rfl, fun Y' q => ?_, fun Z hZ vZ => ?_⟩
  · injection q with q
    subst q
    unfold ltB; omega
  · obtain ⟨m, e, -⟩ := hZ
    have := smB_mono (f := p) (n := n) (m := m) hX
    rw [← e] at this
    unfold ltB; omega
/-- enough -/
theorem pst_en {r X : Nat} {b : Option Nat} (hr : r ≤ n) (hk : ∀ j, j < n → 1 ≤ k j) (hX : X < 2 ^ (n - r)) (hg : gdB g n X) (hp : PreB (k := k) (g := g) (n := n) (E := E) r X b) (hq : prB p n b X = false) (h : E ≤ smB k n X) : PstB (p := p) (k := k) (g := g) (n := n) (E := E) r X b (upB p k n b X) := by
  have hXn : X < 2 ^ n := Nat.lt_of_lt_of_le hX (Nat.pow_le_pow_right (by decide) (Nat.sub_le _ _))
  have sX : SbB n r X X := ⟨0, by omega, hXn⟩
  have hz : ∀ Z, SbB n r X Z → Z = X ∨ (smB p n X ≤ smB p n Z ∧ smB k n X < smB k n Z) := by
    rintro Z ⟨m, e, hm⟩
    rcases Nat.eq_zero_or_pos m with q | q
    · left; rw [e, q, Nat.mul_zero, Nat.add_zero]
    · right
      have h1 := smB_mono (f := p) (n := n) (m := m) hX
      have h2 := smB_lt (f := k) (n := n) (m := m) hX (Nat.sub_le _ _) (e ▸ hm) hk q
      rw [← e] at h1 h2
      exact ⟨h1, h2⟩
  cases b with
  | none =>
    refine ⟨fun q => (by cases q), fun Y' q => ?_⟩
    injection q with q
    subst q
    refine ⟨hXn, ⟨hg, h⟩, Or.inr sX, fun Y q => (by cases q), fun Z hZ vZ => ?_⟩
    rcases hz Z hZ with rfl | ⟨a, b⟩
    · unfold ltB; omega
    · unfold ltB; omega
  | some Y =>
    obtain ⟨h1, h2, h3⟩ := hp Y rfl
    have hq' : ¬ smB p n Y < smB p n X := by
      intro w
      have : Nat.blt (smB p n Y) (smB p n X) = false := hq
      have w2 : Nat.blt (smB p n Y) (smB p n X) = true := Nat.blt_eq.mpr w
      rw [this] at w2; cases w2
    have h3X := h3 X sX
    by_cases u : smB p n X < smB p n Y ∨ smB k n X < smB k n Y
    · have e : upB p k n (some Y) X = some X := by
        show (bif Nat.blt (smB p n X) (smB p n Y) || Nat.blt (smB k n X) (smB k n Y) then some X else some Y) = _
        rcases u with u | u
        · rw [Nat.blt_eq.mpr u]; rfl
        · rw [Nat.blt_eq.mpr u, Bool.or_true]; rfl
      rw [e]
      refine ⟨fun q => (by cases q), fun Y' q => ?_⟩
      injection q with q
      subst q
      refine ⟨hXn, ⟨hg, h⟩, Or.inr sX, fun Y' q => ?_, fun Z hZ vZ => ?_⟩
      · injection q with q
        subst q
        unfold ltB; omega
      · rcases hz Z hZ with rfl | ⟨a, b⟩
        · unfold ltB; omega
        · unfold ltB; omega
    · have e : upB p k n (some Y) X = some Y := by
        show (bif Nat.blt (smB p n X) (smB p n Y) || Nat.blt (smB k n X) (smB k n Y) then some X else some Y) = _
        have b1 : Nat.blt (smB p n X) (smB p n Y) = false := by
          cases q : Nat.blt (smB p n X) (smB p n Y)
          · rfl
          · exact absurd (Or.inl (Nat.blt_eq.mp q)) u
        have b2 : Nat.blt (smB k n X) (smB k n Y) = false := by
          cases q : Nat.blt (smB k n X) (smB k n Y)
          · rfl
          · exact absurd (Or.inr (Nat.blt_eq.mp q)) u
        rw [b1, b2]; rfl
      rw [e]
      refine ⟨fun q => (by cases q), fun Y' q => ?_⟩
      injection q with q
      subst q
      refine ⟨h1, h2, Or.inl rfl, fun Y' q => ?_, fun Z hZ vZ => ?_⟩
      · injection q with q
        subst q
        unfold ltB; omega
      · rcases hz Z hZ with rfl | ⟨a, b⟩
        · unfold ltB; omega
        · unfold ltB; omega
theorem dfs_ok (hk : ∀ j, j < n → 1 ≤ k j) : ∀ r X b, r ≤ n → X < 2 ^ (n - r) → gdB g n X → PreB (k := k) (g := g) (n := n) (E := E) r X b → PstB (p := p) (k := k) (g := g) (n := n) (E := E) r X b (dfs p k g n E r X b) := by
  intro r
  induction r with
  | zero =>
    intro X b hr hX hg hp
    unfold dfs
    cases hq : prB p n b X
    case true =>
      cases b with
      | none => cases hq
      | some Y => exact pst_pr hX hp (Nat.blt_eq.mp hq)
    case false =>
      show PstB _ _ _ (bif Nat.ble E (smB k n X) then _ else _)
      cases he : Nat.ble E (smB k n X)
      case true => exact pst_en hr hk hX hg hp hq (Nat.le_of_ble_eq_true he)
      case false =>
        have hn : ∀ Z, SbB n 0 X Z → ¬ vlB k g n E Z := by
          rintro Z ⟨m, e, hm⟩ ⟨-, v⟩
          have : m = 0 := by
            rcases Nat.eq_zero_or_pos m with q | q
            · exact q
            · exfalso
              have : 2 ^ (n - 0) * 1 ≤ 2 ^ (n - 0) * m := Nat.mul_le_mul_left _ q
              rw [Nat.sub_zero] at this e
              omega
          rw [this, Nat.mul_zero, Nat.add_zero] at e
          subst e
          rw [Nat.ble_eq_true_of_le v] at he
          cases he
        refine ⟨fun q => ⟨q, hn⟩, fun Y' q => ?_⟩
        obtain ⟨h1, h2, h3⟩ := hp Y' q
        refine ⟨h1, h2, Or.inl q, fun Y w => ?_, fun Z hZ vZ => absurd vZ (hn Z hZ)⟩
        have : Y = Y' := by
          have := w.symm.trans q
          injection this
        subst this
        unfold ltB; omega
  | succ r ih =>
    intro X b hr hX hg hp
    unfold dfs
    cases hq : prB p n b X
    case true =>
      cases b with
      | none => cases hq
      | some Y => exact pst_pr hX hp (Nat.blt_eq.mp hq)
    case false =>
      show PstB _ _ _ (bif Nat.ble E (smB k n X) then _ else _)
      cases he : Nat.ble E (smB k n X)
      case true => exact pst_en hr hk hX hg hp hq (Nat.le_of_ble_eq_true he)
      case false =>
        show PstB _ _ _ (dfs p k g n E r X (bif g (n - (r + 1)) then dfs p k g n E r (X + 2 ^ (n - (r + 1))) b else b))
        have ei : n - r = (n - (r + 1)) + 1 := by omega
        generalize hi : n - (r + 1) = i at hX ei ⊢
        have e2 : (2 : Nat) ^ (i + 1) = 2 ^ i * 2 := Nat.pow_succ ..
        have hX1 : X < 2 ^ (n - r) := by rw [ei, e2]; omega
        have hX2 : X + 2 ^ i < 2 ^ (n - r) := by rw [ei, e2]; omega
        have s1 : ∀ Z, SbB n r (X + 2 ^ i) Z → SbB n (r + 1) X Z := by
          rintro Z ⟨m, e, hm⟩
          refine ⟨1 + 2 * m, ?_, hm⟩
          rw [e, hi, ei, e2, Nat.mul_add, Nat.mul_one, Nat.mul_assoc, Nat.add_assoc]
        have s2 : ∀ Z, SbB n r X Z → SbB n (r + 1) X Z := by
          rintro Z ⟨m, e, hm⟩
          refine ⟨2 * m, ?_, hm⟩
          rw [e, hi, ei, e2, Nat.mul_assoc]
        have s3 : ∀ Z, SbB n (r + 1) X Z → SbB n r (X + 2 ^ i) Z ∨ SbB n r X Z := by
          rintro Z ⟨m, e, hm⟩
          rw [hi] at e
          have hm2 : m = 2 * (m / 2) ∨ m = 1 + 2 * (m / 2) := by omega
          rcases hm2 with q | q
          · right
            refine ⟨m / 2, ?_, hm⟩
            rw [ei, e2, Nat.mul_assoc, ← q]; exact e
          · left
            refine ⟨m / 2, ?_, hm⟩
            rw [ei, e2, Nat.mul_assoc, Nat.add_assoc, ← Nat.mul_one (2 ^ i), Nat.mul_assoc, Nat.one_mul, ← Nat.mul_add, ← q]; exact e
        have b1 : ∀ Z, SbB n r (X + 2 ^ i) Z → bt Z i = 1 ∧ ∀ j, j < i → bt Z j = bt X j := by
          rintro Z ⟨m, e, -⟩
          have e3 : Z = X + 2 ^ i * (1 + 2 * m) := by rw [e, ei, e2, Nat.mul_add, Nat.mul_one, Nat.mul_assoc, Nat.add_assoc]
          refine ⟨?_, fun j hj => ?_⟩
          · have := bt_up (X := X) (i := i) (j := 0) (m := 1 + 2 * m) hX
            rw [Nat.add_zero, ← e3] at this
            rw [this]
            unfold bt
            rw [Nat.pow_zero, Nat.div_one]; omega
          · rw [e3]; exact bt_lo hj
        have b2 : ∀ Z, SbB n r X Z → bt Z i = 0 ∧ ∀ j, j < i → bt Z j = bt X j := by
          rintro Z ⟨m, e, -⟩
          have e3 : Z = X + 2 ^ i * (2 * m) := by rw [e, ei, e2, Nat.mul_assoc]
          refine ⟨?_, fun j hj => ?_⟩
          · have := bt_up (X := X) (i := i) (j := 0) (m := 2 * m) hX
            rw [Nat.add_zero, ← e3] at this
            rw [this]
            unfold bt
            rw [Nat.pow_zero, Nat.div_one]; omega
          · rw [e3]; exact bt_lo hj
        have hp2 : PreB (k := k) (g := g) (n := n) (E := E) r X b := fun Y q => by
          obtain ⟨h1, h2, h3⟩ := hp Y q
          exact ⟨h1, h2, fun Z hZ => h3 Z (s2 Z hZ)⟩
        cases hgi : g i
        case false =>
          show PstB _ _ _ (dfs p k g n E r X b)
          obtain ⟨t1, t2⟩ := ih X b (by omega) hX1 hg hp2
          have nv : ∀ Z, SbB n r (X + 2 ^ i) Z → ¬ vlB k g n E Z := fun Z hZ v => by
            have := v.1 i (by omega) (b1 Z hZ).1
            rw [hgi] at this; cases this
          refine ⟨fun q => ⟨(t1 q).1, fun Z hZ => ?_⟩, fun Y' q => ?_⟩
          · rcases s3 Z hZ with w | w
            · exact nv Z w
            · exact (t1 q).2 Z w
          · obtain ⟨u1, u2, u3, u4, u5⟩ := t2 Y' q
            refine ⟨u1, u2, u3.imp id (s2 Y'), u4, fun Z hZ vZ => ?_⟩
            rcases s3 Z hZ with w | w
            · exact absurd vZ (nv Z w)
            · exact u5 Z w vZ
        case true =>
          show PstB _ _ _ (dfs p k g n E r X (dfs p k g n E r (X + 2 ^ i) b))
          have hg1 : gdB g n (X + 2 ^ i) := by
            intro j hj q
            by_cases w : j = i
            · subst w; exact hgi
            · refine hg j hj ?_
              rcases Nat.lt_or_ge j i with c | c
              · rw [← q, ← Nat.mul_one (2 ^ i), bt_lo c]
              · exfalso
                have : bt (X + 2 ^ i) j = 0 := by
                  refine bt_hi (i := i + 1) ?_ (by omega)
                  rw [e2]; omega
                omega
          have hp1 : PreB (k := k) (g := g) (n := n) (E := E) r (X + 2 ^ i) b := fun Y q => by
            obtain ⟨h1, h2, h3⟩ := hp Y q
            exact ⟨h1, h2, fun Z hZ => h3 Z (s1 Z hZ)⟩
          obtain ⟨t1, t2⟩ := ih (X + 2 ^ i) b (by omega) hX2 hg1 hp1
          generalize dfs p k g n E r (X + 2 ^ i) b = bb at t1 t2 ⊢
          have hp3 : PreB (k := k) (g := g) (n := n) (E := E) r X bb := fun Y q => by
            obtain ⟨u1, u2, u3, u4, u5⟩ := t2 Y q
            refine ⟨u1, u2, fun Z hZ => ?_⟩
            rcases u3 with w | w
            · exact (hp2 Y w).2.2 Z hZ
            · obtain ⟨x1, x2⟩ := b1 Y w
              obtain ⟨x3, x4⟩ := b2 Z hZ
              exact rv_br (i := i) (X := X) (fun j hj => (x2 j hj).trans (x4 j hj).symm) x1 x3 (by omega)
          obtain ⟨v1, v2⟩ := ih X bb (by omega) hX1 hg hp3
          refine ⟨fun q => ?_, fun Y' q => ?_⟩
          · obtain ⟨w1, w2⟩ := v1 q
            obtain ⟨w3, w4⟩ := t1 w1
            refine ⟨w3, fun Z hZ => ?_⟩
            rcases s3 Z hZ with w | w
            · exact w4 Z w
            · exact w2 Z w
          · obtain ⟨u1, u2, u3, u4, u5⟩ := v2 Y' q
            refine ⟨u1, u2, ?_, fun Y w => ?_, fun Z hZ vZ => ?_⟩
            · rcases u3 with w | w
              · exact (t2 Y' w).2.2.1.imp id (s1 Y')
              · exact Or.inr (s2 Y' w)
            · cases hbb : bb with
              | none =>
                have := (t1 hbb).1
                rw [this] at w; cases w
              | some Y1 =>
                have x1 := (t2 Y1 hbb).2.2.2.1 Y w
                have x2 := u4 Y1 hbb
                unfold ltB at x1 x2 ⊢; omega
            · rcases s3 Z hZ with w | w
              · cases hbb : bb with
                | none => exact absurd vZ ((t1 hbb).2 Z w)
                | some Y1 =>
                  have x1 := (t2 Y1 hbb).2.2.2.2 Z w vZ
                  have x2 := u4 Y1 hbb
                  unfold ltB at x1 x2 ⊢; omega
              · exact u5 Z w vZ
/-- both searches find the same -/
theorem dfs_md (hk : ∀ j, j < n → 1 ≤ k j) : dfs p k g n E n 0 none = mdB p k g n E (2 ^ n) := by
  have h0 : gdB g n 0 := fun j _ q => by rw [bt_hi (i := 0) (by decide) (Nat.zero_le j)] at q; cases q
  obtain ⟨t1, t2⟩ := dfs_ok (p := p) (k := k) (g := g) (n := n) (E := E) hk n 0 none (Nat.le_refl _) (Nat.pow_pos (by decide)) h0 (fun Y q => by cases q)
  obtain ⟨m1, m2⟩ := md_ok (p := p) (k := k) (g := g) (n := n) (E := E) (2 ^ n)
  have sb : ∀ Z, Z < 2 ^ n → SbB n n 0 Z := fun Z hZ => ⟨Z, by rw [Nat.sub_self, Nat.pow_zero]; omega, hZ⟩
  cases ed : dfs p k g n E n 0 none with
  | none =>
    cases em : mdB p k g n E (2 ^ n) with
    | none => rfl
    | some Y =>
      obtain ⟨a1, a2, -⟩ := m2 Y em
      exact absurd a2 ((t1 ed).2 Y (sb Y a1))
  | some X =>
    obtain ⟨c1, c2, c3, c4, c5⟩ := t2 X ed
    cases em : mdB p k g n E (2 ^ n) with
    | none => exact absurd c2 (m1 em X c1)
    | some Y =>
      obtain ⟨a1, a2, a3⟩ := m2 Y em
      have x1 := a3 X c1 c2
      have x2 := c5 Y (sb Y a1) a2
      have : rvN n X = rvN n Y := by unfold ltB at x1 x2; omega
      rw [rv_inj c1 a1 this]
end SE
