/-! Words for GO, OUT, PLAYBACK, COUNT, and the model's edits -/
def mNow (w : mS) (t : Int32) (F M Q6 K : Nat) : mS := up2 (mTl t F M Q6 K w) 22 0 t
abbrev mTick (w : mS) (t : Int32) : Prop := ¬ t < w 22 0 ∧ ¬ 1000000000 < t
def mGoQ (u : mS) (j : Nat) (x : Int32) (F : Nat) : Option Nat := if u 12 j = -1 then none else if x = 0 then mAbv u (u 12 j) (u 14 j) F else mBlw u (u 12 j) (u 14 j) F
theorem mGoQ_lt {u : mS} {j : Nat} {x : Int32} {F : Nat} : ∀ q, mGoQ u j x F = some q → q < F := by
  intro q h
  unfold mGoQ at h
  split at h
  · cases h
  · split at h
    · exact mAbv_lt _ _ h
    · exact mBlw_lt _ _ h
def mGoR (u : mS) (j : Nat) (t : Int32) (F M : Nat) (r : Int32) (z : mS) : Option Nat → Prop
  | none => z = up2 u 0 0 2 ∧ r = 0
  | some q => z = mStart (up2 u 0 0 0) j q t F M ∧ r = mStart (up2 u 0 0 0) j q t F M 5 q
def mGoP (w : mS) (x1 x2 t : Int32) (F M Q6 K : Nat) (r : Int32) (z : mS) : Prop :=
  if isPb x1 ∧ mTick w t then mGoR (mNow (up2 w 0 0 0) t F M Q6 K) x1.toNatClampNeg t F M r z (mGoQ (mNow (up2 w 0 0 0) t F M Q6 K) x1.toNatClampNeg x2 F)
  else z = up2 w 0 0 1 ∧ r = 0
def mOwn (u : mS) (ch : Nat) : Int32 := if u 2 ch = -1 then -1 else mLev u (u 2 ch) ch
def mOutA (u : mS) (ch Q6 : Nat) : Int32 := if mOwn u ch < 0 then mMg u ch Q6 else mOwn u ch
def mOutP (w : mS) (x1 t : Int32) (F M Q6 K : Nat) (r : Int32) (z : mS) : Prop :=
  if isCh x1 ∧ mTick w t then z = mNow (up2 w 0 0 0) t F M Q6 K ∧ r = mOutA (mNow (up2 w 0 0 0) t F M Q6 K) x1.toNatClampNeg Q6
  else z = up2 w 0 0 1 ∧ r = 0
abbrev mPbok (x1 x2 : Int32) : Prop := isPb x1 ∧ ¬ x2 < 0 ∧ (x2 < 5 ∨ (¬ x2 ≤ 7 ∧ ¬ 72 ≤ x2))
def mPbv (w : mS) (j : Nat) (x : Int32) : Int32 := if x = 0 then w 12 j else if x = 1 then w 14 j else if x = 2 then w 13 j else if x = 3 then w 15 j else if x = 4 then w 16 j else mAt w (64 * j + (x.toNatClampNeg - 8)) (w 22 0)
def mPbP (w : mS) (x1 x2 : Int32) (r : Int32) (z : mS) : Prop := if mPbok x1 x2 then z = up2 w 0 0 0 ∧ r = mPbv (up2 w 0 0 0) x1.toNatClampNeg x2 else z = up2 w 0 0 1 ∧ r = 0
def mCnt (w : mS) (x : Int32) (F M : Nat) : Int32 := if x = 0 then mCc w F else if x = 1 then mMc w M F else if x = 2 then mPc w M else if x = 3 then w 22 0 else if x = 4 then w 23 0 else -1
/-- keeping, if a cue keeps -/
def mKpo (w : mS) (i : Nat) : Option Nat → mS
  | none => w
  | some x => mKp w x i
/-- RECORD -/
def mRp (w : mS) (q : Nat) (nx : Option Nat) : Nat → mS
  | 0 => w
  | i + 1 => if mRp w q nx i 2 i = -1 then mRp w q nx i else mKpo (up2 (mRp w q nx i) 10 (64 * q + i) (s16 (mRp w q nx i 2 i))) i nx
def mNx (w : mS) (a b x : Int32) (F : Nat) : Option Nat := if x = 0 then none else mAbv w a b F
def mAdd (w : mS) (M : Nat) : Option Nat → Int32
  | none => mPc w M
  | some q => mKm w q M
abbrev mROk (a b : Int32) : Prop := ¬ a < 0 ∧ ¬ 4 ≤ a ∧ ¬ b ≤ 0 ∧ ¬ 10000 ≤ b
abbrev mRful (w : mS) (a b x : Int32) (F M : Nat) : Prop := (mFnd w a b F = none ∧ mCc w F = 40) ∨ ¬ mMc w M F + mAdd w M (mFnd w a b F) + mKo w M (mNx w a b x F) ≤ 600
def mRr (w0 w2 : mS) (a b : Int32) (nx : Option Nat) (F M : Nat) (r : Int32) (z : mS) : Option Nat → Prop
  | none => z = mRp (mMk w2 a b ((mFre w0 F).getD 0) M) ((mFre w0 F).getD 0) nx M ∧ r = mMv z ((mFre w0 F).getD 0) M
  | some q => z = mRp w2 q nx M ∧ r = mMv z q M
def mRcP (w : mS) (a b x : Int32) (F M : Nat) (r : Int32) (z : mS) : Prop :=
  if mROk a b then
    (if mRful (up2 w 0 0 0) a b x F M then z = up2 (up2 w 0 0 0) 0 0 2 ∧ r = 0
     else mRr (up2 w 0 0 0) (mNo (up2 (up2 w 0 0 0) 0 0 0) F M (mNx (up2 w 0 0 0) a b x F)) a b (mNx (up2 w 0 0 0) a b x F) F M r z (mFnd (up2 w 0 0 0) a b F))
  else z = up2 w 0 0 1 ∧ r = 0
/-- UPDATE -/
def mUc (w : mS) (a b : Int32) (F : Nat) : Nat → Int32
  | 0 => 0
  | i + 1 => mUc w a b F i + (if ¬ w 2 i = -1 ∧ mSrc w a b i F = none then 1 else 0)
def mUs (w : mS) (a b : Int32) (q F : Nat) : Nat → mS
  | 0 => w
  | i + 1 => if mUs w a b q F i 2 i = -1 then mUs w a b q F i else up2 (mUs w a b q F i) 10 (64 * (mSrc (mUs w a b q F i) a b i F).getD q + i) (s16 (mUs w a b q F i 2 i))
def mUl (w : mS) (a b : Int32) (q F : Nat) : Nat → Int64
  | 0 => 0
  | i + 1 => if mUs w a b q F i 2 i = -1 then mUl w a b q F i else mUl w a b q F i ||| (1 <<< ((nI ((mSrc (mUs w a b q F i) a b i F).getD q)).toInt64 &&& 63))
def mUb (x : Int64) : Nat → Int32
  | 0 => 0
  | i + 1 => mUb x i + (if lg_cmp (x >>> ((nI i).toInt64 &&& 63) &&& 1) 1 = 0 then 1 else 0)
def mUr (w : mS) (a b : Int32) (F M : Nat) (r : Int32) (z : mS) : Option Nat → Prop
  | none => False
  | some q => if mMc w M F + mUc w a b F M ≤ 600 then z = mUs (up2 w 0 0 0) a b q F M ∧ r = mUb (mUl (up2 w 0 0 0) a b q F M) F else z = up2 w 0 0 2 ∧ r = 0
def mUpP (w : mS) (a b : Int32) (F M : Nat) (r : Int32) (z : mS) : Prop :=
  if mFnd w a b F = none then z = up2 w 0 0 1 ∧ r = 0 else mUr (up2 w 0 0 0) a b F M r z (mFnd (up2 w 0 0 0) a b F)
/-- DELETE -/
def mDl (w : mS) (q x : Nat) : Nat → mS
  | 0 => w
  | i + 1 => if mDl w q x i 10 (64 * q + i) = -1 then mDl w q x i else mKp (mDl w q x i) x i
def mDlo (w : mS) (q M : Nat) : Option Nat → mS
  | none => w
  | some x => mDl w q x M
def mDr (w : mS) (nx : Option Nat) (F M : Nat) (r : Int32) (z : mS) : Option Nat → Prop
  | none => False
  | some q => z = up2 (mDlo (mNo w F M nx) q M nx) 4 q (-1) ∧ r = mMv w q M
def mDeP (w : mS) (a b x : Int32) (F M : Nat) (r : Int32) (z : mS) : Prop :=
  if mFnd w a b F = none then z = up2 w 0 0 1 ∧ r = 0 else mDr (up2 w 0 0 0) (mNx (up2 w 0 0 0) a b x F) F M r z (mFnd (up2 w 0 0 0) a b F)
/-- BLOCK -/
def mBc (w : mS) (a b : Int32) (q F : Nat) : Nat → Int32
  | 0 => 0
  | i + 1 => mBc w a b q F i + (if ¬ mSrc w a b i F = none ∧ w 10 (64 * q + i) = -1 then 1 else 0)
def mBb (w : mS) (q : Nat) : Nat → mS
  | 0 => w
  | i + 1 => up2 (mBb w q i) 10 (64 * q + i) (s16 (mBb w q i 11 i))
def mUn (x : Int32) : Int32 := if x = -1 then 300 else x
def mBu (w : mS) (a b : Int32) (q F : Nat) : Nat → mS
  | 0 => w
  | i + 1 => if ¬ mBu w a b q F i 10 (64 * q + i) = -1 ∧ mBu w a b q F i 10 (64 * q + i) = mUn (mTrk (mBu w a b q F i) a (b - 1) i F) then up2 (mBu w a b q F i) 10 (64 * q + i) (s16 (-1)) else mBu w a b q F i
def mBX (w : mS) (a b x : Int32) (q F M : Nat) : mS := if x = 0 then mBu w a b q F M else mBb w q M
def mBr (w : mS) (a b x : Int32) (F M : Nat) (r : Int32) (z : mS) : Option Nat → Prop
  | none => False
  | some q => if ¬ x = 0 ∧ ¬ mMc w M F + mBc w a b q F M ≤ 600 then z = up2 w 0 0 2 ∧ r = 0 else z = mBX (mNt (up2 w 0 0 0) q F M) a b x q F M ∧ r = mMv z q M
def mBlP (w : mS) (a b x : Int32) (F M : Nat) (r : Int32) (z : mS) : Prop :=
  if mFnd w a b F = none then z = up2 w 0 0 1 ∧ r = 0 else mBr (up2 w 0 0 0) a b x F M r z (mFnd (up2 w 0 0 0) a b F)
theorem lt0_m1 {x : Int32} (h : ¬ x < -1) (h1 : x < 0) : x = -1 := by
  rw [Int32.lt_iff_toInt_lt] at h h1
  apply Int32.toInt_inj.mp
  have h2 : (-1 : Int32).toInt = -1 := by decide
  have h3 : (0 : Int32).toInt = 0 := by decide
  omega
