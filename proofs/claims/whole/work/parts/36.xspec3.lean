/-! Words for edits of the book -/
theorem xBk_put {v : Nat → Nat → Nat → Int32} {π : Nat → Nat} {n j ch : Nat} {x : Int32} (h : xBk v π n) : xBk (vPut v j ch x) π n := by
  refine ⟨?_, h.2⟩
  rw [← h.1]
  unfold vPut
  split <;> simp [up3]
theorem xBk_drop {v : Nat → Nat → Nat → Int32} {π : Nat → Nat} {n j ch : Nat} (h : xBk v π n) : xBk (vDrop v j ch) π n := by
  refine ⟨?_, h.2⟩
  rw [← h.1]
  unfold vDrop
  split <;> simp [up3]
/-- keeping: the cue at the place q gets, for the channels of the row k below i, what was tracked -/
def kp (v : Nat → Nat → Nat → Int32) (π : Nat → Nat) (q k : Nat) : Nat → Nat → Nat → Nat → Int32
  | 0 => v
  | i + 1 => if ¬ kp v π q k i 17 k i = -1 ∧ kp v π q k i 17 (π q) i = -1 then vPut (kp v π q k i) (π q) i (orU (trk (kp v π q k i) π i (some q))) else kp v π q k i
theorem kp_bk {v : Nat → Nat → Nat → Int32} {π : Nat → Nat} {n q k : Nat} (h : xBk v π n) : ∀ i, xBk (kp v π q k i) π n := by
  intro i
  induction i with
  | zero => exact h
  | succ i ih =>
    unfold kp
    split
    · exact xBk_put ih
    · exact ih
/-- the cue at q gets the row k's values -/
def pa (v : Nat → Nat → Nat → Int32) (π : Nat → Nat) (q k : Nat) : Nat → Nat → Nat → Nat → Int32
  | 0 => v
  | i + 1 => if ¬ pa v π q k i 17 k i = -1 then vPut (pa v π q k i) (π q) i (pa v π q k i 17 k i) else pa v π q k i
theorem pa_bk {v : Nat → Nat → Nat → Int32} {π : Nat → Nat} {n q k : Nat} (h : xBk v π n) : ∀ i, xBk (pa v π q k i) π n := by
  intro i
  induction i with
  | zero => exact h
  | succ i ih =>
    unfold pa
    split
    · exact xBk_put ih
    · exact ih
/-- block: how many moves come; the state behind -/
def bkc (v : Nat → Nat → Nat → Int32) (π : Nat → Nat) (q : Nat) : Nat → Int32
  | 0 => 0
  | i + 1 => if v 17 (π q) i = -1 ∧ ¬ srcO v π i (some q) = none then bkc v π q i + 1 else bkc v π q i
def bks (v : Nat → Nat → Nat → Int32) (π : Nat → Nat) (q : Nat) : Nat → Nat → Nat → Nat → Int32
  | 0 => v
  | i + 1 => if trk (bks v π q i) π i (some q) = -1 then bks v π q i else vPut (bks v π q i) (π q) i (trk (bks v π q i) π i (some q))
theorem bks_bk {v : Nat → Nat → Nat → Int32} {π : Nat → Nat} {n q : Nat} (h : xBk v π n) : ∀ i, xBk (bks v π q i) π n := by
  intro i
  induction i with
  | zero => exact h
  | succ i ih =>
    unfold bks
    split
    · exact ih
    · exact xBk_put ih
/-- unblock, B the place ahead -/
def ubs (v : Nat → Nat → Nat → Int32) (π : Nat → Nat) (q : Nat) (B : Option Nat) : Nat → Nat → Nat → Nat → Int32
  | 0 => v
  | i + 1 => if ubs v π q B i 17 (π q) i = orU (trk (ubs v π q B i) π i B) then vDrop (ubs v π q B i) (π q) i else ubs v π q B i
theorem ubs_bk {v : Nat → Nat → Nat → Int32} {π : Nat → Nat} {n q : Nat} {B : Option Nat} (h : xBk v π n) : ∀ i, xBk (ubs v π q B i) π n := by
  intro i
  induction i with
  | zero => exact h
  | succ i ih =>
    unfold ubs
    split
    · exact xBk_drop ih
    · exact ih
/-- update: how many moves come; the state and the places touched -/
def usc (v : Nat → Nat → Nat → Int32) (π : Nat → Nat) (q k : Nat) : Nat → Int32
  | 0 => 0
  | i + 1 => if ¬ v 17 k i = -1 ∧ srcO v π i (some q) = none then usc v π q k i + 1 else usc v π q k i
def tgt (v : Nat → Nat → Nat → Int32) (π : Nat → Nat) (q i : Nat) : Nat := (srcO v π i (some q)).getD q
def uss (v : Nat → Nat → Nat → Int32) (π : Nat → Nat) (q k : Nat) : Nat → Nat → Nat → Nat → Int32
  | 0 => v
  | i + 1 => if ¬ uss v π q k i 17 k i = -1 then vPut (uss v π q k i) (π (tgt (uss v π q k i) π q i)) i (uss v π q k i 17 k i) else uss v π q k i
def usl (v : Nat → Nat → Nat → Int32) (π : Nat → Nat) (q k : Nat) : Nat → Int64
  | 0 => 0
  | i + 1 => if ¬ uss v π q k i 17 k i = -1 then usl v π q k i ||| (1 <<< ((nI (tgt (uss v π q k i) π q i)).toInt64 &&& 63)) else usl v π q k i
theorem uss_bk {v : Nat → Nat → Nat → Int32} {π : Nat → Nat} {n q k : Nat} (h : xBk v π n) : ∀ i, xBk (uss v π q k i) π n := by
  intro i
  induction i with
  | zero => exact h
  | succ i ih =>
    unfold uss
    split
    · exact xBk_put ih
    · exact ih
/-- the book's row closes over the place q; opens at the place q -/
def tkp (π : Nat → Nat) (q : Nat) : Nat → Nat → Nat
  | 0 => π
  | d + 1 => va_up (tkp π q d) (q + d) (tkp π q d (q + d + 1))
def isp (π : Nat → Nat) (n : Nat) : Nat → Nat → Nat
  | 0 => π
  | d + 1 => va_up (isp π n d) (n - d) (isp π n d (n - d - 1))
theorem up_lt {π : Nat → Nat} (h : ∀ p, p < 40 → π p < 40) {i o : Nat} (ho : o < 40) : ∀ p, p < 40 → va_up π i o p < 40 := by
  intro p hp
  by_cases hq : p = i
  · rw [hq, va_up_self]; exact ho
  · rw [va_up_ne _ _ hq]; exact h p hp
theorem tkp_lt {π : Nat → Nat} {q : Nat} (h : ∀ p, p < 40 → π p < 40) : ∀ d, q + d < 40 → ∀ p, p < 40 → tkp π q d p < 40 := by
  intro d
  induction d with
  | zero => intro _; exact h
  | succ d ih =>
    intro hd
    have h1 := ih (by omega)
    exact up_lt h1 (h1 _ (by omega))
theorem isp_lt {π : Nat → Nat} {n : Nat} (hn : n < 40) (h : ∀ p, p < 40 → π p < 40) : ∀ d, ∀ p, p < 40 → isp π n d p < 40 := by
  intro d
  induction d with
  | zero => exact h
  | succ d ih => exact up_lt ih (ih _ (by omega))
theorem nI_sub1 {n : Nat} (h : 0 < n) : nI n - 1 = nI (n - 1) := by
  obtain ⟨m, rfl⟩ : ∃ m, n = m + 1 := ⟨n - 1, by omega⟩
  exact nI_pred m
theorem nI_decn {n : Nat} (h : 0 < n) : nI n + Int32.ofInt (-1) = nI (n - 1) := by rw [nI_dec, nI_sub1 h]
/-- a cue is made at the place q; the one at q is taken out -/
def vIns (v : Nat → Nat → Nat → Int32) (π : Nat → Nat) (n : Nat) (a b : Int32) : Nat → Nat → Nat → Int32 := vBegin (up3 v 4 0 0 (nI (n + 1))) (π n) a b
def pIns (π : Nat → Nat) (n q : Nat) : Nat → Nat := va_up (isp π n (n - q)) q (π n)
def vOut (v : Nat → Nat → Nat → Int32) (n : Nat) : Nat → Nat → Nat → Int32 := up3 v 4 0 0 (nI (n - 1))
def pOut (π : Nat → Nat) (n q : Nat) : Nat → Nat := va_up (tkp π q (n - 1 - q)) (n - 1) (π q)
/-- Long.bitCount, as it computes -/
def bc1 (i : Int64) : Int64 := i - ((i.toUInt64 >>> ((1 : Int32).toInt64.toUInt64 &&& Int64.toUInt64 63)).toInt64 &&& 6148914691236517205)
def bc2 (i : Int64) : Int64 := (i &&& 3689348814741910323) + ((i.toUInt64 >>> ((2 : Int32).toInt64.toUInt64 &&& Int64.toUInt64 63)).toInt64 &&& 3689348814741910323)
def bc3 (i : Int64) : Int64 := (i + (i.toUInt64 >>> ((4 : Int32).toInt64.toUInt64 &&& Int64.toUInt64 63)).toInt64) &&& 1085102592571150095
def bc4 (k : Int32) (i : Int64) : Int64 := i + (i.toUInt64 >>> (k.toInt64.toUInt64 &&& Int64.toUInt64 63)).toInt64
def bcL (i : Int64) : Int32 := (bc4 32 (bc4 16 (bc4 8 (bc3 (bc2 (bc1 i)))))).toInt32 &&& 127
