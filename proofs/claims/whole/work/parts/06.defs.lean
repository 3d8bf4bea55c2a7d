/-! words for the segments: writes, and what goes on behind a call -/
def wFI (σ : PS) (o k : Nat) (v : Int32) : PS := (u2 σ.1 o k v, σ.2)
def wFL (σ : PS) (o k : Nat) (v : Int64) : PS := (σ.1, u2 σ.2.1 o k v, σ.2.2)
def wAI (σ : PS) (o j : Nat) (v : Int32) : PS := (σ.1, σ.2.1, ua σ.2.2.1 o j v, σ.2.2.2)
def wAL (σ : PS) (o j : Nat) (v : Int64) : PS := (σ.1, σ.2.1, σ.2.2.1, ua σ.2.2.2.1 o j v, σ.2.2.2.2)
noncomputable def aft (ini : Bool) (d k nx : Nat) (ls : List (Option Value)) (t : List Value) (o : Option PO) : Option PO := bkF (fun pc' ls' st' σ' => Run ini d k pc' ls' st' σ') k nx ls t o
theorem aft_v {ini : Bool} {d k nx : Nat} {ls : List (Option Value)} {t : List Value} {w : Value} {σ : PS} : aft ini d k nx ls t (some (.inl (some w, σ))) = Run ini d k nx ls (w :: t) σ := rfl
theorem aft_n {ini : Bool} {d k nx : Nat} {ls : List (Option Value)} {t : List Value} {σ : PS} : aft ini d k nx ls t (some (.inl (none, σ))) = Run ini d k nx ls t σ := rfl
