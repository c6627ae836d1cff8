/-! Words for the desk's own methods -/
def cntS (v : Nat → Nat → Nat → Int32) (π : Nat → Nat) (n : Nat) (x : Int32) : Int32 := if x = 0 then v 4 0 0 else if x = 1 then mvs v π n else if x = 2 then v 16 40 0 else if x = 3 then v 5 0 0 else if x = 4 then v 6 0 0 else -1
theorem xBk_fd {v : Nat → Nat → Nat → Int32} {π : Nat → Nat} {n j ch o : Nat} {x t : Int32} (h : xBk v π n) : xBk (vFd v j ch x o t) π n := by
  refine ⟨?_, h.2⟩
  rw [← h.1]
  simp [vFd, up3]
/-- a cue's fades, channel by channel: playback j, the cue at the place q, the tick t -/
def stt (v : Nat → Nat → Nat → Int32) (π : Nat → Nat) (j q : Nat) (t : Int32) : Nat → Nat → Nat → Nat → Int32
  | 0 => v
  | i + 1 => if vLev (stt v π j q t i) (trk (stt v π j q t i) π i (some q)) i = -1 then stt v π j q t i else vFd (stt v π j q t i) j i (vLev (stt v π j q t i) (trk (stt v π j q t i) π i (some q)) i) (π q) t
theorem stt_bk {v : Nat → Nat → Nat → Int32} {π : Nat → Nat} {n j q : Nat} {t : Int32} (h : xBk v π n) : ∀ i, xBk (stt v π j q t i) π n := by
  intro i
  induction i with
  | zero => exact h
  | succ i ih =>
    unfold stt
    split
    · exact ih
    · exact xBk_fd ih
def vStart1 (w : Nat → Nat → Nat → Int32) (j o : Nat) (t : Int32) : Nat → Nat → Nat → Int32 :=
  up3 (up3 (up3 (up3 w 27 j 0 (w 11 o 0)) 28 j 0 t) 29 j 0 (if w 15 o 0 = -1 then -1 else t + w 15 o 0)) 6 0 0 (w 6 0 0 + 1)
def vStart (v : Nat → Nat → Nat → Int32) (π : Nat → Nat) (j q : Nat) (t : Int32) (M : Nat) : Nat → Nat → Nat → Int32 := vStart1 (stt v π j q t M) j (π q) t
theorem xBk_start {v : Nat → Nat → Nat → Int32} {π : Nat → Nat} {n j q : Nat} {t : Int32} {M : Nat} (h : xBk v π n) : xBk (vStart v π j q t M) π n := by
  have h1 := stt_bk (j := j) (q := q) (t := t) h M
  refine ⟨?_, h.2⟩
  rw [← h1.1]
  simp [vStart, vStart1, up3]
/-- a follow-on is done -/
def vFol (v : Nat → Nat → Nat → Int32) (π : Nat → Nat) (n j M : Nat) : Nat → Nat → Nat → Int32 := match abvO v π n (v 25 j 0) (v 27 j 0) with
  | none => up3 v 29 j 0 (-1)
  | some q => vStart v π j q (v 29 j 0) M
theorem xBk_fol {v : Nat → Nat → Nat → Int32} {π : Nat → Nat} {n j M : Nat} (h : xBk v π n) : xBk (vFol v π n j M) π n := by
  unfold vFol
  split
  · refine ⟨?_, h.2⟩
    rw [← h.1]
    simp [up3]
  · exact xBk_start h
theorem vp_nb0 : vp_nar .boolean 0 = 0 := by decide
theorem vp_nb1 : vp_nar .boolean 1 = 1 := by decide
/-- the follow-on that is due first: playbacks below i -/
def eD (v : Nat → Nat → Nat → Int32) (t : Int32) : Nat → Option Nat × Int32
  | 0 => (none, t)
  | i + 1 => if v 29 i 0 = -1 then eD v t i else if v 29 i 0 ≤ (eD v t i).2 then (if (eD v t i).1 = none then (some i, v 29 i 0) else if (eD v t i).2 ≤ v 29 i 0 then eD v t i else (some i, v 29 i 0)) else eD v t i
theorem eD_lt {v : Nat → Nat → Nat → Int32} {t : Int32} : ∀ i p, (eD v t i).1 = some p → p < i := by
  intro i
  induction i with
  | zero => intro p h; cases h
  | succ i ih =>
    intro p h
    unfold eD at h
    split at h
    · exact Nat.lt_succ_of_lt (ih p h)
    · split at h
      · split at h
        · cases h; exact Nat.lt_succ_self _
        · split at h
          · exact Nat.lt_succ_of_lt (ih p h)
          · cases h; exact Nat.lt_succ_self _
      · exact Nat.lt_succ_of_lt (ih p h)
/-- all follow-ons that are due at the tick t: at most k -/
def tl (π : Nat → Nat) (n : Nat) (t : Int32) (M Q6 : Nat) : Nat → (Nat → Nat → Nat → Int32) → Nat → Nat → Nat → Int32
  | 0, v => v
  | k + 1, v => match (eD v t Q6).1 with
    | none => v
    | some j => tl π n t M Q6 k (vFol v π n j M)
theorem tl_bk {π : Nat → Nat} {n : Nat} {t : Int32} {M Q6 : Nat} : ∀ k (v : Nat → Nat → Nat → Int32), xBk v π n → xBk (tl π n t M Q6 k v) π n := by
  intro k
  induction k with
  | zero => intro v h; exact h
  | succ k ih =>
    intro v h
    unfold tl
    split
    · exact h
    · exact ih _ (xBk_fol h)
/-- OUT's two merges -/
def gL (v : Nat → Nat → Nat → Int32) (ch : Nat) : Nat → Int32
  | 0 => 0
  | i + 1 => if gL v ch i < vAt v i ch (v 5 0 0) * v 26 i 0 / 255 then vAt v i ch (v 5 0 0) * v 26 i 0 / 255 else gL v ch i
def lL (v : Nat → Nat → Nat → Int32) (ch : Nat) : Nat → Int32 × Int32
  | 0 => (0, 0)
  | i + 1 => if v 24 i ch = -1 then lL v ch i else if v 24 i ch < (lL v ch i).2 then lL v ch i else (vAt v i ch (v 5 0 0), v 24 i ch)
