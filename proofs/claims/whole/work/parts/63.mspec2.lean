/-! Further words for the model -/
def mRl (w : mS) (x : Int32) : Nat → mS
  | 0 => w
  | i + 1 => if (x = -1 ∨ x = nI i) ∧ ¬ mRl w x i 2 i = -1 then up2 (mRl w x i) 2 i (-1) else mRl w x i
def mRc (w : mS) (x : Int32) : Nat → Int32
  | 0 => 0
  | i + 1 => if (x = -1 ∨ x = nI i) ∧ ¬ mRl w x i 2 i = -1 then mRc w x i + 1 else mRc w x i
def mKm (w : mS) (q : Nat) : Nat → Int32
  | 0 => 0
  | i + 1 => mKm w q i + (if ¬ w 2 i = -1 ∧ w 10 (64 * q + i) = -1 then 1 else 0)
def mKp (w : mS) (q ch : Nat) : mS := if w 10 (64 * q + ch) = -1 then up2 w 10 (64 * q + ch) (s16 (if w 11 ch = -1 then 300 else w 11 ch)) else w
def mFade (fr to bg ln x : Int32) : Int32 := if bg ≤ x then (if x - bg < ln then fr + (to - fr) * (x - bg) / ln else to) else fr
def mAt (w : mS) (k : Nat) (x : Int32) : Int32 := mFade (w 17 k) (w 18 k) (w 19 k) (w 20 k) x
