/-! Words for tracking in the model -/
def mK (x : Int32) : Nat := (x.toInt + 2147483648).toNat
theorem mK_lt {x y : Int32} (h : x < y) : mK x < mK y := by
  rw [Int32.lt_iff_toInt_lt] at h
  have h1 := Int32.le_toInt x
  unfold mK
  omega
theorem mBlw_num {w : mS} {a b : Int32} : ∀ i p, mBlw w a b i = some p → w 4 p = a ∧ w 5 p < b := by
  intro i
  induction i with
  | zero => intro p h; cases h
  | succ i ih =>
    intro p h
    unfold mBlw at h
    split at h
    · rename_i h4
      split at h
      · exact ih p h
      · rename_i h5
        split at h
        · cases h; exact ⟨h4, Int32.not_le.mp h5⟩
        · rename_i q hq
          split at h
          · cases h; exact ih _ hq
          · cases h; exact ⟨h4, Int32.not_le.mp h5⟩
    · exact ih p h
def mSrcL (w : mS) (a : Int32) (ch F : Nat) : Nat → Option Nat → Option Nat
  | _, none => none
  | 0, some q => some q
  | k + 1, some q => if w 10 (64 * q + ch) = -1 then mSrcL w a ch F k (mBlw w a (w 5 q) F) else some q
theorem mSrcL_n {w : mS} {a : Int32} {ch F k : Nat} : mSrcL w a ch F k none = none := by cases k <;> rfl
def mSrc (w : mS) (a b : Int32) (ch F : Nat) : Option Nat := mSrcL w a ch F (mK (b + 1)) (mBlw w a (b + 1) F)
theorem mSrcL_lt {w : mS} {a : Int32} {ch F : Nat} : ∀ k o, (∀ q, o = some q → q < F) → ∀ q, mSrcL w a ch F k o = some q → q < F := by
  intro k
  induction k with
  | zero =>
    intro o ho q h
    cases o with
    | none => cases h
    | some p => exact ho q h
  | succ k ih =>
    intro o ho q h
    cases o with
    | none => cases h
    | some p =>
      unfold mSrcL at h
      split at h
      · exact ih _ (mBlw_lt _) q h
      · exact ho q h
theorem mSrc_lt {w : mS} {a b : Int32} {ch F : Nat} : ∀ q, mSrc w a b ch F = some q → q < F := mSrcL_lt _ _ (mBlw_lt _)
def mTrk (w : mS) (a b : Int32) (ch F : Nat) : Int32 := match mSrc w a b ch F with
  | none => -1
  | some q => w 10 (64 * q + ch)
/-- moves are levels, references, or UNSET -/
def mV (w : mS) : Prop := ∀ q ch, q < 40 → ch < 64 → w 10 (64 * q + ch) < 272 ∨ w 10 (64 * q + ch) = 300
theorem mTrk_v {w : mS} {a b : Int32} {ch F : Nat} (hF : F = 40) (h : mV w) (hch : ch < 64) : mTrk w a b ch F < 272 ∨ mTrk w a b ch F = 300 := by
  unfold mTrk
  split
  · exact Or.inl (by decide)
  · rename_i q hq
    exact h q ch (by have := mSrc_lt _ hq; omega) hch
def mLook (w : mS) (a b : Int32) (ch F : Nat) : Int32 := if 0 ≤ mTrk w a b ch F then mLev w (mTrk w a b ch F) ch else -1
/-- note: what was tracked at the cue of the slot q (none: NONE), channels below i -/
def mNt (w : mS) (q F : Nat) : Nat → mS
  | 0 => w
  | i + 1 => up2 (mNt w q F i) 11 i (s16 (mTrk (mNt w q F i) (mNt w q F i 4 q) (mNt w q F i 5 q) i F))
def mNn (w : mS) : Nat → mS
  | 0 => w
  | i + 1 => up2 (mNn w i) 11 i (s16 (-1))
def mNo (w : mS) (F M : Nat) : Option Nat → mS
  | none => mNn w M
  | some q => mNt w q F M
def mKo (w : mS) (M : Nat) : Option Nat → Int32
  | none => 0
  | some q => mKm w q M
/-- make: the slot s -/
def mMk1 (w : mS) (a b : Int32) (s : Nat) : mS := up2 (up2 (up2 (up2 (up2 (up2 w 4 s a) 5 s b) 6 s 0) 7 s 0) 8 s 0) 9 s (-1)
def mMk (w : mS) (a b : Int32) (s : Nat) : Nat → mS
  | 0 => mMk1 w a b s
  | i + 1 => up2 (mMk w a b s i) 10 (64 * s + i) (s16 (-1))
theorem nI_opt {p : Nat} (h : p < 2 ^ 31) : ¬ nI p < 0 := nI_pos h
