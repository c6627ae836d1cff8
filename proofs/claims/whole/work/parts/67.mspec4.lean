/-! Words for the model's answers and edits -/
theorem mFnd_0 {w : mS} {x : Int32} {a b : Int32} : ∀ i, mFnd (up2 w 0 0 x) a b i = mFnd w a b i := by
  intro i
  induction i with
  | zero => rfl
  | succ i ih =>
    rw [mFnd, mFnd, ih]
    rfl
/-- LOOK and SOURCE -/
def mLkP (w : mS) (a b x : Int32) (F : Nat) (r : Int32) (u : mS) : Prop :=
  if mFnd w a b F = none then u = up2 w 0 0 1 ∧ r = 0
  else if isCh x then u = up2 (up2 w 0 0 0) 0 0 0 ∧ r = mLook (up2 (up2 w 0 0 0) 0 0 0) a b x.toNatClampNeg F
  else u = up2 (up2 w 0 0 0) 0 0 2 ∧ r = 0
def mNum (w : mS) : Option Nat → Int32
  | none => -1
  | some q => w 5 q
def mScP (w : mS) (a b x : Int32) (F : Nat) (r : Int32) (u : mS) : Prop :=
  if mFnd w a b F = none then u = up2 w 0 0 1 ∧ r = 0
  else if isCh x then u = up2 (up2 w 0 0 0) 0 0 0 ∧ r = mNum (up2 (up2 w 0 0 0) 0 0 0) (mSrc (up2 (up2 w 0 0 0) 0 0 0) a b x.toNatClampNeg F)
  else u = up2 (up2 w 0 0 0) 0 0 2 ∧ r = 0
theorem mV_up {w : mS} {f i : Nat} {x : Int32} (hf : f ≠ 10) (h : mV w) : mV (up2 w f i x) := by
  intro q ch hq hch
  rw [up2_f (Ne.symm hf)]
  exact h q ch hq hch
/-- the first free slot -/
def mFre (w : mS) : Nat → Option Nat
  | 0 => none
  | i + 1 => match mFre w i with
    | some p => some p
    | none => if w 4 i < 0 then some i else none
theorem mFre_some {w : mS} : ∀ i p, mFre w i = some p → p < i ∧ w 4 p < 0 ∧ ∀ j, j < p → ¬ w 4 j < 0 := by
  intro i
  induction i with
  | zero => intro p h; cases h
  | succ i ih =>
    intro p h
    have hN : mFre w i = none → ∀ j, j < i → ¬ w 4 j < 0 := by
      clear ih h
      induction i with
      | zero => intro _ j hj; omega
      | succ i ih =>
        intro h j hj
        unfold mFre at h
        split at h
        · cases h
        · rename_i h0
          split at h
          · cases h
          · rename_i h1
            by_cases hji : j = i
            · rw [hji]; exact h1
            · exact ih h0 j (by omega)
    unfold mFre at h
    split at h
    · rename_i q hq
      cases h
      have := ih _ hq
      exact ⟨by omega, this.2⟩
    · rename_i h0
      split at h
      · rename_i h1
        cases h
        exact ⟨by omega, h1, hN h0⟩
      · cases h
theorem mFre_none {w : mS} : ∀ i, mFre w i = none → mCc w i = nI i := by
  intro i
  induction i with
  | zero => intro _; rfl
  | succ i ih =>
    intro h
    unfold mFre at h
    split at h
    · cases h
    · rename_i h0
      split at h
      · cases h
      · rename_i h1
        rw [mCc, if_neg h1, ih h0, nI_1]
/-- how many channels the programmer holds -/
def mPc (w : mS) : Nat → Int32
  | 0 => 0
  | i + 1 => mPc w i + (if w 2 i = -1 then 0 else 1)
/-- CUE -/
def mCl (w : mS) (a : Int32) : Nat → Int32
  | 0 => 0
  | i + 1 => mCl w a i + (if ¬ a < 0 ∧ w 4 i = a then 1 else 0)
def mCw (w : mS) (a : Int32) (F : Nat) : Nat → Option Nat
  | 0 => mAbv w a 0 F
  | k + 1 => match mCw w a F k with
    | none => none
    | some q => mAbv w a (w 5 q) F
theorem mCw_lt {w : mS} {a : Int32} {F : Nat} : ∀ k q, mCw w a F k = some q → q < F := by
  intro k
  cases k with
  | zero => exact mAbv_lt _
  | succ k =>
    intro q h
    unfold mCw at h
    split at h
    · cases h
    · exact mAbv_lt _ _ h
abbrev mCok (w : mS) (a x2 x3 : Int32) (F : Nat) : Prop := ¬ a < 0 ∧ ¬ 4 ≤ a ∧ ¬ x2 < -1 ∧ ¬ mCl w a F ≤ x2 ∧ ¬ x3 < 0 ∧ ¬ 6 ≤ x3 ∧ (0 ≤ x2 ∨ x3 = 0)
def mDet (w : mS) (q M : Nat) (x : Int32) : Int32 := if x = 0 then w 5 q else if x = 1 then mMv w q M else if x = 2 then w 6 q else if x = 3 then w 7 q else if x = 4 then w 8 q else w 9 q
def mCuP (w : mS) (a x2 x3 : Int32) (F M : Nat) (r : Int32) (u : mS) : Prop :=
  if mCok w a x2 x3 F then u = up2 w 0 0 0 ∧ (if x2 = -1 then r = mCl w a F else r = mDet (up2 w 0 0 0) ((mCw (up2 w 0 0 0) a F x2.toNatClampNeg).getD 0) M x3)
  else u = up2 w 0 0 1 ∧ r = 0
/-- merging -/
def mO (w : mS) (x : Int32) : Prop := ∀ j ch, j < 6 → ch < 64 → w 19 (64 * j + ch) ≤ x → ¬ x - w 19 (64 * j + ch) < 0
def mMx (w : mS) (ch : Nat) : Nat → Int32
  | 0 => 0
  | i + 1 => if mAt w (64 * i + ch) (w 22 0) * w 13 i / 255 ≤ mMx w ch i then mMx w ch i else mAt w (64 * i + ch) (w 22 0) * w 13 i / 255
def mLs (w : mS) (ch : Nat) : Nat → Option Nat
  | 0 => none
  | i + 1 => if w 21 (64 * i + ch) = -1 then mLs w ch i else match mLs w ch i with
    | none => some i
    | some p => if w 21 (64 * i + ch) < w 21 (64 * p + ch) then some p else some i
theorem mLs_lt {w : mS} {ch : Nat} : ∀ i p, mLs w ch i = some p → p < i := by
  intro i
  induction i with
  | zero => intro p h; cases h
  | succ i ih =>
    intro p h
    unfold mLs at h
    split at h
    · exact Nat.lt_succ_of_lt (ih p h)
    · split at h
      · cases h; exact Nat.lt_succ_self _
      · rename_i q hq
        split at h
        · cases h; exact Nat.lt_succ_of_lt (ih _ hq)
        · cases h; exact Nat.lt_succ_self _
def mLsA (w : mS) (ch : Nat) : Option Nat → Int32
  | none => 0
  | some p => mAt w (64 * p + ch) (w 22 0)
def mMg (w : mS) (ch Q6 : Nat) : Int32 := if w 1 ch = 0 then mMx w ch Q6 else mLsA w ch (mLs w ch Q6)
/-- starting -/
def mFd (u : mS) (k : Nat) (b : Int32) (q : Nat) (t : Int32) : mS :=
  up2 (up2 (up2 (up2 (up2 u 17 k (s16 (mAt u k t))) 18 k (s16 b)) 19 k (t + u 8 q)) 20 k (if b < mAt u k t then u 7 q else u 6 q)) 21 k t
def mSt (w : mS) (p q : Nat) (t : Int32) (F : Nat) : Nat → mS
  | 0 => w
  | i + 1 => if mLook (mSt w p q t F i) (mSt w p q t F i 4 q) (mSt w p q t F i 5 q) i F < 0 then mSt w p q t F i else mFd (mSt w p q t F i) (64 * p + i) (mLook (mSt w p q t F i) (mSt w p q t F i 4 q) (mSt w p q t F i 5 q) i F) q t
theorem mFd_f {u : mS} {k : Nat} {b : Int32} {q : Nat} {t : Int32} {f i : Nat} (h : f < 17 ∨ 21 < f) : mFd u k b q t f i = u f i := by
  unfold mFd
  rw [up2_f (by omega), up2_f (by omega), up2_f (by omega), up2_f (by omega), up2_f (by omega)]
theorem mFd_i {u : mS} {k : Nat} {b : Int32} {q : Nat} {t : Int32} {f i : Nat} (h : i ≠ k) : mFd u k b q t f i = u f i := by
  unfold mFd
  rw [up2_i h, up2_i h, up2_i h, up2_i h, up2_i h]
theorem mSt_f {w : mS} {p q : Nat} {t : Int32} {F f k : Nat} (h : f < 17 ∨ 21 < f) : ∀ i, mSt w p q t F i f k = w f k := by
  intro i
  induction i with
  | zero => rfl
  | succ i ih =>
    unfold mSt
    split
    · exact ih
    · rw [mFd_f h]; exact ih
theorem mSt_i {w : mS} {p q : Nat} {t : Int32} {F f k : Nat} : ∀ i, (∀ j, j < i → k ≠ 64 * p + j) → mSt w p q t F i f k = w f k := by
  intro i
  induction i with
  | zero => intro _; rfl
  | succ i ih =>
    intro h
    unfold mSt
    split
    · exact ih (fun j hj => h j (by omega))
    · rw [mFd_i (h i (by omega))]; exact ih (fun j hj => h j (by omega))
theorem mSt_v {w : mS} {p q : Nat} {t : Int32} {F : Nat} (h : mV w) (i : Nat) : mV (mSt w p q t F i) := by
  intro q' ch hq hch
  rw [mSt_f (by omega)]
  exact h q' ch hq hch
theorem mSt_o {w : mS} {p q : Nat} {t : Int32} {F i : Nat} (hp : p < 6) (hi : i < 64) (h : mO w t) : mSt w p q t F i 19 (64 * p + i) ≤ t → ¬ t - mSt w p q t F i 19 (64 * p + i) < 0 := by
  rw [mSt_i i (fun j hj => by omega)]
  exact h p i hp hi
def mStart1 (u : mS) (p q : Nat) (t : Int32) : mS := up2 (up2 (up2 (up2 u 14 p (u 5 q)) 15 p t) 16 p (if u 9 q = -1 then -1 else t + u 9 q)) 23 0 (u 23 0 + 1)
def mStart (w : mS) (p q : Nat) (t : Int32) (F M : Nat) : mS := mStart1 (mSt w p q t F M) p q t
/-- telling: the playback due first -/
def mDuS (w : mS) (t : Int32) (k : Nat) (o : Option Nat) : Option Nat :=
  if w 16 k = -1 then o else if t < w 16 k then o else match o with
    | none => some k
    | some p => if w 16 p < w 16 k then some p else some k
def mDuL (w : mS) (t : Int32) : Nat → Option Nat → Option Nat
  | 0, o => o
  | k + 1, o => mDuL w t k (mDuS w t k o)
theorem mDuS_lt {w : mS} {t : Int32} {k Q : Nat} {o : Option Nat} (hk : k < Q) (ho : ∀ p, o = some p → p < Q) : ∀ p, mDuS w t k o = some p → p < Q := by
  intro p h
  unfold mDuS at h
  split at h
  · exact ho p h
  · split at h
    · exact ho p h
    · split at h
      · cases h; exact hk
      · rename_i q
        split at h
        · cases h; exact ho _ rfl
        · cases h; exact hk
theorem mDuL_lt {w : mS} {t : Int32} {Q : Nat} : ∀ k o, k ≤ Q → (∀ p, o = some p → p < Q) → ∀ p, mDuL w t k o = some p → p < Q := by
  intro k
  induction k with
  | zero => intro o _ ho p h; exact ho p h
  | succ k ih => intro o hk ho p h; exact ih _ (by omega) (mDuS_lt (by omega) ho) p h
def mDu (w : mS) (t : Int32) (Q6 : Nat) : Option Nat := mDuL w t Q6 none
theorem mDu_lt {w : mS} {t : Int32} {Q6 : Nat} : ∀ p, mDu w t Q6 = some p → p < Q6 := mDuL_lt _ _ (Nat.le_refl _) (fun p h => nomatch h)
def mFol (w : mS) (p F M : Nat) : mS := match mAbv w (w 12 p) (w 14 p) F with
  | none => up2 w 16 p (-1)
  | some q => mStart (up2 w 16 p (-1)) p q (w 16 p) F M
def mTl (t : Int32) (F M Q6 : Nat) : Nat → mS → mS
  | 0, w => w
  | k + 1, w => match mDu w t Q6 with
    | none => w
    | some p => mTl t F M Q6 k (mFol w p F M)
/-- all is well in a telling of at most k follow-ons -/
def mTok (t : Int32) (F M Q6 : Nat) : Nat → mS → Prop
  | 0, w => mDu w t Q6 = none
  | k + 1, w => match mDu w t Q6 with
    | none => True
    | some p => mV w ∧ mO w (w 16 p) ∧ mTok t F M Q6 k (mFol w p F M)
/-- a counter that runs down to -1 -/
def dI : Nat → Int32
  | 0 => -1
  | k + 1 => nI k
theorem dI_dec (k : Nat) : nI k + Int32.ofInt (-1) = dI k := by
  rw [nI_dec]
  cases k with
  | zero => rfl
  | succ k => exact nI_pred k
