/-! THE PURE PROOFS: guards -/
/-- an int from lo to hi -/
def IR (lo hi : Nat) (a : Int32) : Prop := ∃ n, lo ≤ n ∧ n ≤ hi ∧ a = nI n
/-- an index below n -/
def IX (n : Nat) (a : Int32) : Prop := ∃ m, m < n ∧ a = nI m
theorem ir_nI {lo hi n : Nat} (h1 : lo ≤ n) (h2 : n ≤ hi) : IR lo hi (nI n) := ⟨n, h1, h2, rfl⟩
theorem ix_nI {n m : Nat} (h : m < n) : IX n (nI m) := ⟨m, h, rfl⟩
theorem nI_0i : (nI 0).toInt = 0 := by decide +kernel
theorem i_of {x : Int32} (h : 0 ≤ x.toInt) : ∃ n, n < 2 ^ 31 ∧ x = nI n := by
  obtain ⟨j, h1, h2⟩ := nI_of (x := x) (by rw [Int32.lt_iff_toInt_lt, Int32.toInt_zero]; omega)
  exact ⟨j, h1, h2⟩
theorem ir_iff {lo hi : Nat} {a : Int32} (hl : lo < 2 ^ 31) (hh : hi < 2 ^ 31) : (¬ a < nI lo ∧ a ≤ nI hi) ↔ IR lo hi a := by
  rw [Int32.lt_iff_toInt_lt, Int32.le_iff_toInt_le, nI_toInt hl, nI_toInt hh]
  constructor
  · intro ⟨h1, h2⟩
    obtain ⟨n, h3, rfl⟩ := i_of (x := a) (by omega)
    rw [nI_toInt h3] at h1 h2
    exact ⟨n, by omega, by omega, rfl⟩
  · rintro ⟨n, h1, h2, rfl⟩
    rw [nI_toInt (by omega)]
    omega
theorem ix_iff {m : Nat} {a : Int32} (hm : m < 2 ^ 31) : (¬ a < nI 0 ∧ a < nI m) ↔ IX m a := by
  rw [Int32.lt_iff_toInt_lt, Int32.lt_iff_toInt_lt, nI_toInt hm, nI_0i]
  constructor
  · intro ⟨h1, h2⟩
    obtain ⟨n, h3, rfl⟩ := i_of (x := a) (by omega)
    rw [nI_toInt h3] at h1 h2
    exact ⟨n, by omega, rfl⟩
  · rintro ⟨n, h1, rfl⟩
    rw [nI_toInt (by omega)]
    omega
theorem nI_sub1 {m : Nat} (hm : m < 2 ^ 31) : (nI m - nI 1).toInt = (m : Int) - 1 := by
  rw [Int32.toInt_sub, nI_toInt hm, nI_toInt (by decide)]
  have : (2 : Int) ^ 32 = 4294967296 := by decide
  simp only [Int.bmod]
  omega
theorem ix_iff2 {m : Nat} {a : Int32} (hm : m < 2 ^ 31) : (¬ a < nI 0 ∧ ¬ (nI m - nI 1) < a) ↔ IX m a := by
  rw [Int32.lt_iff_toInt_lt, Int32.lt_iff_toInt_lt, nI_sub1 hm, nI_0i]
  constructor
  · intro ⟨h1, h2⟩
    obtain ⟨n, h3, rfl⟩ := i_of (x := a) (by omega)
    rw [nI_toInt h3] at h1 h2
    exact ⟨n, by omega, rfl⟩
  · rintro ⟨n, h1, rfl⟩
    rw [nI_toInt (by omega)]
    omega
section GU
variable {d : Nat} {σ : PS} {a : Int32}
theorem dS {d : Nat} (h : 1 ≤ d) : ∃ z, d = z + 1 := ⟨d - 1, by omega⟩
theorem c42_t {lo hi : Nat} (hd : 1 ≤ d) (h : IR lo hi a) (hh : hi < 2 ^ 31) : Run false d 42 0 [some (.int a), some (.int (nI lo)), some (.int (nI hi))] [] σ = some (.inl (none, σ)) := by
  obtain ⟨d, rfl⟩ := dS hd
  obtain ⟨n, h1, h2, rfl⟩ := h
  rw [s42_0, obl_f (nI_nlt h1 (by omega)), obl_t (nI_le h2 hh)]
  rfl
theorem c42_f {lo hi : Nat} (hd : 1 ≤ d) (h : ¬ IR lo hi a) (hl : lo < 2 ^ 31) (hh : hi < 2 ^ 31) : Run false d 42 0 [some (.int a), some (.int (nI lo)), some (.int (nI hi))] [] σ = some (.inr (1, thF σ)) := by
  obtain ⟨d, rfl⟩ := dS hd
  rw [← ir_iff hl hh] at h
  rw [s42_0]
  by_cases q : a < nI lo
  · rw [obl_t q]; rfl
  · rw [obl_f q, obl_f (fun z => h ⟨q, z⟩)]; rfl
theorem c43_t (hd : 2 ≤ d) (h : IR 0 40 a) : Run false d 43 0 [some (.int a)] [] σ = some (.inl (none, σ)) := by
  obtain ⟨d, rfl⟩ := dS (show 1 ≤ d by omega)
  rw [s43_0, c42_t (by omega) h (by decide), aft_n, s43_7]
theorem c43_f (hd : 2 ≤ d) (h : ¬ IR 0 40 a) : Run false d 43 0 [some (.int a)] [] σ = some (.inr (1, thF σ)) := by
  obtain ⟨d, rfl⟩ := dS (show 1 ≤ d by omega)
  rw [s43_0, c42_f (by omega) h (by decide) (by decide), aft_x rfl]
theorem c44_t (hd : 2 ≤ d) (h : IR 0 4 a) : Run false d 44 0 [some (.int a)] [] σ = some (.inl (none, σ)) := by
  obtain ⟨d, rfl⟩ := dS (show 1 ≤ d by omega)
  rw [s44_0, c42_t (by omega) h (by decide), aft_n, s44_6]
theorem c44_f (hd : 2 ≤ d) (h : ¬ IR 0 4 a) : Run false d 44 0 [some (.int a)] [] σ = some (.inr (1, thF σ)) := by
  obtain ⟨d, rfl⟩ := dS (show 1 ≤ d by omega)
  rw [s44_0, c42_f (by omega) h (by decide) (by decide), aft_x rfl]
theorem c45_t (hd : 2 ≤ d) (h : IR 0 200 a) : Run false d 45 0 [some (.int a)] [] σ = some (.inl (none, σ)) := by
  obtain ⟨d, rfl⟩ := dS (show 1 ≤ d by omega)
  rw [s45_0, c42_t (by omega) h (by decide), aft_n, s45_8]
theorem c45_f (hd : 2 ≤ d) (h : ¬ IR 0 200 a) : Run false d 45 0 [some (.int a)] [] σ = some (.inr (1, thF σ)) := by
  obtain ⟨d, rfl⟩ := dS (show 1 ≤ d by omega)
  rw [s45_0, c42_f (by omega) h (by decide) (by decide), aft_x rfl]
theorem c46_t {m : Nat} (hd : 1 ≤ d) (h : IX m a) (hm : m < 2 ^ 31) : Run false d 46 0 [some (.int a), some (.int (nI m))] [] σ = some (.inl (none, σ)) := by
  obtain ⟨d, rfl⟩ := dS hd
  rw [← ix_iff hm] at h
  rw [s46_0, obl_f h.1, obl_t h.2]
  rfl
theorem c46_f {m : Nat} (hd : 1 ≤ d) (h : ¬ IX m a) (hm : m < 2 ^ 31) : Run false d 46 0 [some (.int a), some (.int (nI m))] [] σ = some (.inr (3, thF σ)) := by
  obtain ⟨d, rfl⟩ := dS hd
  rw [← ix_iff hm] at h
  rw [s46_0]
  by_cases q : a < nI 0
  · rw [obl_t q]; rfl
  · rw [obl_f q, obl_f (fun z => h ⟨q, z⟩)]; rfl
theorem c47_t {n : Nat} (hd : 2 ≤ d) (e : FI σ 12 0 = nI n) (h : IR 0 n a) (hn : n < 2 ^ 31) : Run false d 47 0 [some (.ref 0), some (.int a)] [] σ = some (.inl (none, σ)) := by
  obtain ⟨d, rfl⟩ := dS (show 1 ≤ d by omega)
  rw [s47_0, e, c42_t (by omega) h hn, aft_n, s47_12]
theorem c47_f {n : Nat} (hd : 2 ≤ d) (e : FI σ 12 0 = nI n) (h : ¬ IR 0 n a) (hn : n < 2 ^ 31) : Run false d 47 0 [some (.ref 0), some (.int a)] [] σ = some (.inr (1, thF σ)) := by
  obtain ⟨d, rfl⟩ := dS (show 1 ≤ d by omega)
  rw [s47_0, e, c42_f (by omega) h (by decide) hn, aft_x rfl]
theorem c48_t {m : Nat} (hd : 1 ≤ d) (e : FI σ 0 1 = nI m) (h : IX m a) (hm : m < 2 ^ 31) : Run false d 48 0 [some (.ref 0), some (.int a)] [] σ = some (.inl (none, σ)) := by
  obtain ⟨d, rfl⟩ := dS hd
  rw [← ix_iff hm] at h
  rw [s48_0, e, obl_f h.1, obl_t h.2]
  rfl
theorem c48_f {m : Nat} (hd : 1 ≤ d) (e : FI σ 0 1 = nI m) (h : ¬ IX m a) (hm : m < 2 ^ 31) : Run false d 48 0 [some (.ref 0), some (.int a)] [] σ = some (.inr (4, thF σ)) := by
  obtain ⟨d, rfl⟩ := dS hd
  rw [← ix_iff hm] at h
  rw [s48_0, e]
  by_cases q : a < nI 0
  · rw [obl_t q]; rfl
  · rw [obl_f q, obl_f (fun z => h ⟨q, z⟩)]; rfl
theorem c49_t {m : Nat} (hd : 1 ≤ d) (e : FI σ 17 0 = nI m) (h : IX m a) (hm : m < 2 ^ 31) : Run false d 49 0 [some (.ref 0), some (.int a)] [] σ = some (.inl (none, σ)) := by
  obtain ⟨d, rfl⟩ := dS hd
  rw [← ix_iff hm] at h
  rw [s49_0, e, obl_f h.1, obl_t h.2]
  rfl
theorem c49_f {m : Nat} (hd : 1 ≤ d) (e : FI σ 17 0 = nI m) (h : ¬ IX m a) (hm : m < 2 ^ 31) : Run false d 49 0 [some (.ref 0), some (.int a)] [] σ = some (.inr (4, thF σ)) := by
  obtain ⟨d, rfl⟩ := dS hd
  rw [← ix_iff hm] at h
  rw [s49_0, e]
  by_cases q : a < nI 0
  · rw [obl_t q]; rfl
  · rw [obl_f q, obl_f (fun z => h ⟨q, z⟩)]; rfl
theorem c51_t {m : Nat} (hd : 2 ≤ d) (e : FI σ 31 0 = nI m) (h : IX m a) (hm : m < 2 ^ 31) : Run false d 51 0 [some (.ref 0), some (.int a)] [] σ = some (.inl (none, σ)) := by
  obtain ⟨d, rfl⟩ := dS (show 1 ≤ d by omega)
  rw [s51_0, e, c46_t (by omega) h hm, aft_n, s51_11]
theorem c51_f {m : Nat} (hd : 2 ≤ d) (e : FI σ 31 0 = nI m) (h : ¬ IX m a) (hm : m < 2 ^ 31) : Run false d 51 0 [some (.ref 0), some (.int a)] [] σ = some (.inr (3, thF σ)) := by
  obtain ⟨d, rfl⟩ := dS (show 1 ≤ d by omega)
  rw [s51_0, e, c46_f (by omega) h hm, aft_x rfl]
/-- none, or an index below m -/
def IN (m : Nat) (a : Int32) : Prop := a = -1 ∨ IX m a
theorem nI_m1n {m : Nat} (hm : m < 2 ^ 31) : ¬ nI m = -1 := by
  intro q
  have := congrArg Int32.toInt q
  rw [nI_toInt hm, show (-1 : Int32).toInt = -1 by decide] at this
  omega
theorem c52_t {m : Nat} (hd : 3 ≤ d) (e : FI σ 31 0 = nI m) (h : IN m a) (hm : m < 2 ^ 31) : Run false d 52 0 [some (.ref 0), some (.int a)] [] σ = some (.inl (none, σ)) := by
  obtain ⟨d, rfl⟩ := dS (show 1 ≤ d by omega)
  rw [s52_0]
  rcases h with rfl | h
  · rw [obl_t rfl, cond_true, s52_10]
  · obtain ⟨n, h1, rfl⟩ := h
    rw [obl_f (nI_m1n (by omega)), c51_t (by omega) e (ix_nI h1) hm]
    show aft _ _ _ _ _ _ _ = _
    rw [aft_n, s52_10]
theorem c52_f {m : Nat} (hd : 3 ≤ d) (e : FI σ 31 0 = nI m) (h : ¬ IN m a) (hm : m < 2 ^ 31) : Run false d 52 0 [some (.ref 0), some (.int a)] [] σ = some (.inr (3, thF σ)) := by
  obtain ⟨d, rfl⟩ := dS (show 1 ≤ d by omega)
  rw [s52_0, obl_f (fun z => h (Or.inl z)), c51_f (by omega) e (fun z => h (Or.inr z)) hm]
  show aft _ _ _ _ _ _ _ = _
  rw [aft_x rfl]
theorem c53_t {m : Nat} (hd : 2 ≤ d) (e : FI σ 60 0 = nI m) (h : IX m a) (hm : m < 2 ^ 31) : Run false d 53 0 [some (.ref 0), some (.int a)] [] σ = some (.inl (none, σ)) := by
  obtain ⟨d, rfl⟩ := dS (show 1 ≤ d by omega)
  rw [s53_0, e, c46_t (by omega) h hm, aft_n, s53_11]
theorem c53_f {m : Nat} (hd : 2 ≤ d) (e : FI σ 60 0 = nI m) (h : ¬ IX m a) (hm : m < 2 ^ 31) : Run false d 53 0 [some (.ref 0), some (.int a)] [] σ = some (.inr (3, thF σ)) := by
  obtain ⟨d, rfl⟩ := dS (show 1 ≤ d by omega)
  rw [s53_0, e, c46_f (by omega) h hm, aft_x rfl]
/-! the model's -/
theorem nI_10 : ¬ nI 1 = nI 0 := by decide +kernel
theorem c166_t {b e : Int32} (hd : 1 ≤ d) (h : ¬ a < b ∧ ¬ e < a) : Run false d 166 0 [some (.int a), some (.int b), some (.int e)] [] σ = some (.inl (some (.int (nI 1)), σ)) := by
  obtain ⟨d, rfl⟩ := dS hd
  rw [s166_0, obl_f h.1, obl_f h.2, is01_1]
  rfl
theorem c166_f {b e : Int32} (hd : 1 ≤ d) (h : ¬ (¬ a < b ∧ ¬ e < a)) : Run false d 166 0 [some (.int a), some (.int b), some (.int e)] [] σ = some (.inl (some (.int (nI 0)), σ)) := by
  obtain ⟨d, rfl⟩ := dS hd
  rw [s166_0]
  by_cases q : a < b
  · rw [obl_t q, is01_0]; rfl
  · rw [obl_f q, obl_t (show e < a from Classical.byContradiction fun z => h ⟨q, z⟩), is01_0]; rfl
theorem ir_iff2 {lo hi : Nat} (hl : lo < 2 ^ 31) (hh : hi < 2 ^ 31) : (¬ a < nI lo ∧ ¬ nI hi < a) ↔ IR lo hi a := by
  rw [← ir_iff hl hh, Int32.lt_iff_toInt_lt, Int32.lt_iff_toInt_lt, Int32.le_iff_toInt_le]
  omega
/-- from lo to hi -/
theorem c166_T {lo hi : Nat} (hd : 1 ≤ d) (h : IR lo hi a) (hl : lo < 2 ^ 31) (hh : hi < 2 ^ 31) : Run false d 166 0 [some (.int a), some (.int (nI lo)), some (.int (nI hi))] [] σ = some (.inl (some (.int (nI 1)), σ)) := c166_t hd ((ir_iff2 hl hh).mpr h)
theorem c166_F {lo hi : Nat} (hd : 1 ≤ d) (h : ¬ IR lo hi a) (hl : lo < 2 ^ 31) (hh : hi < 2 ^ 31) : Run false d 166 0 [some (.int a), some (.int (nI lo)), some (.int (nI hi))] [] σ = some (.inl (some (.int (nI 0)), σ)) := c166_f hd (fun z => h ((ir_iff2 hl hh).mp z))
/-- an index below m -/
theorem c166_X {m : Nat} (hd : 1 ≤ d) (h : IX m a) (hm : m < 2 ^ 31) : Run false d 166 0 [some (.int a), some (.int (nI 0)), some (.int (nI m - nI 1))] [] σ = some (.inl (some (.int (nI 1)), σ)) := c166_t hd ((ix_iff2 hm).mpr h)
theorem c166_Y {m : Nat} (hd : 1 ≤ d) (h : ¬ IX m a) (hm : m < 2 ^ 31) : Run false d 166 0 [some (.int a), some (.int (nI 0)), some (.int (nI m - nI 1))] [] σ = some (.inl (some (.int (nI 0)), σ)) := c166_f hd (fun z => h ((ix_iff2 hm).mp z))
theorem in_iff2 {m : Nat} (hm : m < 2 ^ 31) : (¬ a < -1 ∧ ¬ (nI m - nI 1) < a) ↔ IN m a := by
  unfold IN
  rw [← ix_iff2 hm, Int32.lt_iff_toInt_lt, Int32.lt_iff_toInt_lt, Int32.lt_iff_toInt_lt, nI_sub1 hm, nI_0i, ← Int32.toInt_inj, show (-1 : Int32).toInt = -1 by decide]
  omega
theorem c166_N {m : Nat} (hd : 1 ≤ d) (h : IN m a) (hm : m < 2 ^ 31) : Run false d 166 0 [some (.int a), some (.int (-1 : Int32)), some (.int (nI m - nI 1))] [] σ = some (.inl (some (.int (nI 1)), σ)) := c166_t hd ((in_iff2 hm).mpr h)
theorem c166_M {m : Nat} (hd : 1 ≤ d) (h : ¬ IN m a) (hm : m < 2 ^ 31) : Run false d 166 0 [some (.int a), some (.int (-1 : Int32)), some (.int (nI m - nI 1))] [] σ = some (.inl (some (.int (nI 0)), σ)) := c166_f hd (fun z => h ((in_iff2 hm).mp z))
theorem c165_t {c : Int32} (hd : 1 ≤ d) (h : FI σ 85 0 = nI 0) : Run false d 165 0 [some (.ref 85), some (.int (nI 1)), some (.int c)] [] σ = some (.inl (some (.int (nI 1)), σ)) := by
  obtain ⟨d, rfl⟩ := dS hd
  rw [s165_0, obl_f nI_10, h, obl_t rfl, is01_1]
  rfl
theorem c165_f {c : Int32} (hd : 1 ≤ d) (h : FI σ 85 0 = nI 0) (hc : ¬ c = nI 0) : Run false d 165 0 [some (.ref 85), some (.int (nI 0)), some (.int c)] [] σ = some (.inl (some (.int (nI 0)), wFI σ 85 0 c)) := by
  obtain ⟨d, rfl⟩ := dS hd
  rw [s165_0, obl_t rfl, h, obl_t rfl, obl_f hc, is01_0]
  rfl
theorem c169_t (hd : 2 ≤ d) (h : IR 0 4 a) : Run false d 169 0 [some (.int a)] [] σ = some (.inl (some (.int (nI 1)), σ)) := by
  obtain ⟨d, rfl⟩ := dS (show 1 ≤ d by omega)
  rw [s169_0, c166_T (by omega) h (by decide) (by decide), aft_v, s169_6, is01_1]; rfl
theorem c169_f (hd : 2 ≤ d) (h : ¬ IR 0 4 a) : Run false d 169 0 [some (.int a)] [] σ = some (.inl (some (.int (nI 0)), σ)) := by
  obtain ⟨d, rfl⟩ := dS (show 1 ≤ d by omega)
  rw [s169_0, c166_F (by omega) h (by decide) (by decide), aft_v, s169_6, is01_0]; rfl
theorem c170_t (hd : 2 ≤ d) (h : IR 0 40 a) : Run false d 170 0 [some (.int a)] [] σ = some (.inl (some (.int (nI 1)), σ)) := by
  obtain ⟨d, rfl⟩ := dS (show 1 ≤ d by omega)
  rw [s170_0, c166_T (by omega) h (by decide) (by decide), aft_v, s170_7, is01_1]; rfl
theorem c170_f (hd : 2 ≤ d) (h : ¬ IR 0 40 a) : Run false d 170 0 [some (.int a)] [] σ = some (.inl (some (.int (nI 0)), σ)) := by
  obtain ⟨d, rfl⟩ := dS (show 1 ≤ d by omega)
  rw [s170_0, c166_F (by omega) h (by decide) (by decide), aft_v, s170_7, is01_0]; rfl
theorem c209_t (hd : 2 ≤ d) (h : IR 0 200 a) : Run false d 209 0 [some (.int a)] [] σ = some (.inl (some (.int (nI 1)), σ)) := by
  obtain ⟨d, rfl⟩ := dS (show 1 ≤ d by omega)
  rw [s209_0, c166_T (by omega) h (by decide) (by decide), aft_v, s209_8, is01_1]; rfl
theorem c209_f (hd : 2 ≤ d) (h : ¬ IR 0 200 a) : Run false d 209 0 [some (.int a)] [] σ = some (.inl (some (.int (nI 0)), σ)) := by
  obtain ⟨d, rfl⟩ := dS (show 1 ≤ d by omega)
  rw [s209_0, c166_F (by omega) h (by decide) (by decide), aft_v, s209_8, is01_0]; rfl
theorem c244_t (hd : 2 ≤ d) (h : IR 0 100 a) : Run false d 244 0 [some (.int a)] [] σ = some (.inl (some (.int (nI 1)), σ)) := by
  obtain ⟨d, rfl⟩ := dS (show 1 ≤ d by omega)
  rw [s244_0, c166_T (by omega) h (by decide) (by decide), aft_v, s244_7, is01_1]; rfl
theorem c244_f (hd : 2 ≤ d) (h : ¬ IR 0 100 a) : Run false d 244 0 [some (.int a)] [] σ = some (.inl (some (.int (nI 0)), σ)) := by
  obtain ⟨d, rfl⟩ := dS (show 1 ≤ d by omega)
  rw [s244_0, c166_F (by omega) h (by decide) (by decide), aft_v, s244_7, is01_0]; rfl
theorem c206_t {m : Nat} (hd : 2 ≤ d) (e : FI σ 85 29 = nI m) (h0 : FI σ 85 0 = nI 0) (h : IX m a) (hm : m < 2 ^ 31) : Run false d 206 0 [some (.ref 85), some (.int a)] [] σ = some (.inl (some (.int (nI 1)), σ)) := by
  obtain ⟨d, rfl⟩ := dS (show 1 ≤ d by omega)
  rw [s206_0, e, c166_X (by omega) h hm, aft_v, s206_12, c165_t (by omega) h0, aft_v, s206_16, is01_1]; rfl
theorem c206_f {m : Nat} (hd : 2 ≤ d) (e : FI σ 85 29 = nI m) (h0 : FI σ 85 0 = nI 0) (h : ¬ IX m a) (hm : m < 2 ^ 31) : Run false d 206 0 [some (.ref 85), some (.int a)] [] σ = some (.inl (some (.int (nI 0)), wFI σ 85 0 (nI 1))) := by
  obtain ⟨d, rfl⟩ := dS (show 1 ≤ d by omega)
  rw [s206_0, e, c166_Y (by omega) h hm, aft_v, s206_12, c165_f (by omega) h0 nI_10, aft_v, s206_16, is01_0]; rfl
theorem c208_t {m : Nat} (hd : 2 ≤ d) (e : FI σ 85 30 = nI m) (h0 : FI σ 85 0 = nI 0) (h : IX m a) (hm : m < 2 ^ 31) : Run false d 208 0 [some (.ref 85), some (.int a)] [] σ = some (.inl (some (.int (nI 1)), σ)) := by
  obtain ⟨d, rfl⟩ := dS (show 1 ≤ d by omega)
  rw [s208_0, e, c166_X (by omega) h hm, aft_v, s208_12, c165_t (by omega) h0, aft_v, s208_16, is01_1]; rfl
theorem c208_f {m : Nat} (hd : 2 ≤ d) (e : FI σ 85 30 = nI m) (h0 : FI σ 85 0 = nI 0) (h : ¬ IX m a) (hm : m < 2 ^ 31) : Run false d 208 0 [some (.ref 85), some (.int a)] [] σ = some (.inl (some (.int (nI 0)), wFI σ 85 0 (nI 1))) := by
  obtain ⟨d, rfl⟩ := dS (show 1 ≤ d by omega)
  rw [s208_0, e, c166_Y (by omega) h hm, aft_v, s208_12, c165_f (by omega) h0 nI_10, aft_v, s208_16, is01_0]; rfl
theorem c241_t {m : Nat} {c : Int32} (hd : 2 ≤ d) (e : FI σ 85 52 = nI m) (h0 : FI σ 85 0 = nI 0) (h : IX m a) (hm : m < 2 ^ 31) : Run false d 241 0 [some (.ref 85), some (.int a), some (.int c)] [] σ = some (.inl (some (.int (nI 1)), σ)) := by
  obtain ⟨d, rfl⟩ := dS (show 1 ≤ d by omega)
  rw [s241_0, e, c166_X (by omega) h hm, aft_v, s241_12, c165_t (by omega) h0, aft_v, s241_16, is01_1]; rfl
theorem c241_f {m : Nat} {c : Int32} (hd : 2 ≤ d) (e : FI σ 85 52 = nI m) (h0 : FI σ 85 0 = nI 0) (h : ¬ IX m a) (hm : m < 2 ^ 31) (hc : ¬ c = nI 0) : Run false d 241 0 [some (.ref 85), some (.int a), some (.int c)] [] σ = some (.inl (some (.int (nI 0)), wFI σ 85 0 c)) := by
  obtain ⟨d, rfl⟩ := dS (show 1 ≤ d by omega)
  rw [s241_0, e, c166_Y (by omega) h hm, aft_v, s241_12, c165_f (by omega) h0 hc, aft_v, s241_16, is01_0]; rfl
end GU
