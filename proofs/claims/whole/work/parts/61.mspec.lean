/-! Words for the model's answers -/
abbrev isLm (c : Int32) : Prop := ¬ c < 0 ∧ ¬ 256 ≤ c
def mFnd (w : mS) (a b : Int32) : Nat → Option Nat
  | 0 => none
  | i + 1 => if ¬ a < 0 ∧ w 4 i = a ∧ w 5 i = b then some i else mFnd w a b i
def mAbv (w : mS) (a b : Int32) : Nat → Option Nat
  | 0 => none
  | i + 1 => if w 4 i = a then (if w 5 i ≤ b then mAbv w a b i else (match mAbv w a b i with
    | none => some i
    | some p => if w 5 p ≤ w 5 i then some p else some i)) else mAbv w a b i
def mBlw (w : mS) (a b : Int32) : Nat → Option Nat
  | 0 => none
  | i + 1 => if w 4 i = a then (if b ≤ w 5 i then mBlw w a b i else (match mBlw w a b i with
    | none => some i
    | some p => if w 5 i ≤ w 5 p then some p else some i)) else mBlw w a b i
theorem mFnd_lt {w : mS} {a b : Int32} : ∀ i p, mFnd w a b i = some p → p < i := by
  intro i
  induction i with
  | zero => intro p h; cases h
  | succ i ih =>
    intro p h
    unfold mFnd at h
    split at h
    · cases h; exact Nat.lt_succ_self _
    · exact Nat.lt_succ_of_lt (ih p h)
theorem mAbv_lt {w : mS} {a b : Int32} : ∀ i p, mAbv w a b i = some p → p < i := by
  intro i
  induction i with
  | zero => intro p h; cases h
  | succ i ih =>
    intro p h
    unfold mAbv at h
    split at h
    · split at h
      · exact Nat.lt_succ_of_lt (ih p h)
      · split at h
        · cases h; exact Nat.lt_succ_self _
        · rename_i q hq
          split at h
          · cases h; exact Nat.lt_succ_of_lt (ih _ hq)
          · cases h; exact Nat.lt_succ_self _
    · exact Nat.lt_succ_of_lt (ih p h)
theorem mBlw_lt {w : mS} {a b : Int32} : ∀ i p, mBlw w a b i = some p → p < i := by
  intro i
  induction i with
  | zero => intro p h; cases h
  | succ i ih =>
    intro p h
    unfold mBlw at h
    split at h
    · split at h
      · exact Nat.lt_succ_of_lt (ih p h)
      · split at h
        · cases h; exact Nat.lt_succ_self _
        · rename_i q hq
          split at h
          · cases h; exact Nat.lt_succ_of_lt (ih _ hq)
          · cases h; exact Nat.lt_succ_self _
    · exact Nat.lt_succ_of_lt (ih p h)
def mMv (w : mS) (q : Nat) : Nat → Int32
  | 0 => 0
  | i + 1 => mMv w q i + (if w 10 (64 * q + i) = -1 then 0 else 1)
def mCc (w : mS) : Nat → Int32
  | 0 => 0
  | i + 1 => mCc w i + (if w 4 i < 0 then 0 else 1)
def mMc (w : mS) (M : Nat) : Nat → Int32
  | 0 => 0
  | i + 1 => mMc w M i + (if w 4 i < 0 then 0 else mMv w i M)
def mLev (w : mS) (x : Int32) (ch : Nat) : Int32 := if 256 ≤ x then (if x = 300 then -1 else w 3 (64 * (x.toNatClampNeg - 256) + ch)) else x
theorem mlev_ix {x : Int32} {ch : Nat} (h : x < 272 ∨ x = 300) (h1 : 256 ≤ x) (h2 : ¬ x = 300) (hch : ch < 64) : 64 * (x - 256) + nI ch = nI (64 * (x.toNatClampNeg - 256) + ch) ∧ 64 * (x.toNatClampNeg - 256) + ch < 1024 := by
  have h3 := h.resolve_right h2
  rcases pk_ix x (n := 272) (by decide) with hq | hq | ⟨q, hq, rfl⟩
  · exact absurd h1 (Int32.not_le.mpr (Int32.lt_trans hq (by decide)))
  · exact absurd h3 (Int32.not_lt.mpr hq)
  · have h4 : 256 ≤ q := Nat.not_lt.mp (fun z => absurd h1 (nI_ge z (by decide)))
    rw [nI_clamp (by omega), show (256 : Int32) = nI 256 from rfl, show (64 : Int32) = nI 64 from rfl, pk_sub h4, pk_mul, nI_add]
    exact ⟨rfl, by omega⟩
theorem ix64 (q c : Nat) : (64 : Int32) * nI q + nI c = nI (64 * q + c) := by rw [show (64 : Int32) = nI 64 from rfl, pk_mul, nI_add]
