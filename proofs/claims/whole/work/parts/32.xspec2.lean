/-! Words for the book: n cues, the cue at the place p is the object π p -/
def xBk (v : Nat → Nat → Nat → Int32) (π : Nat → Nat) (n : Nat) : Prop := v 4 0 0 = nI n ∧ n ≤ 40 ∧ ∀ p, p < 40 → π p < 40
abbrev bef (v : Nat → Nat → Nat → Int32) (π : Nat → Nat) (a b : Int32) (p : Nat) : Prop := v 10 (π p) 0 < a ∨ (v 10 (π p) 0 = a ∧ v 11 (π p) 0 < b)
/-- the first place from p on, k further at most, that is not before -/
def pGo (v : Nat → Nat → Nat → Int32) (π : Nat → Nat) (a b : Int32) : Nat → Nat → Nat
  | 0, p => p
  | k + 1, p => if bef v π a b p then pGo v π a b k (p + 1) else p
def pFor (v : Nat → Nat → Nat → Int32) (π : Nat → Nat) (n : Nat) (a b : Int32) : Nat := pGo v π a b n 0
theorem pGo_le (v : Nat → Nat → Nat → Int32) (π : Nat → Nat) (a b : Int32) : ∀ k p, pGo v π a b k p ≤ p + k := by
  intro k
  induction k with
  | zero => intro p; exact Nat.le_refl _
  | succ k ih =>
    intro p
    unfold pGo
    split
    · have := ih (p + 1); omega
    · omega
theorem pFor_le (v : Nat → Nat → Nat → Int32) (π : Nat → Nat) (n : Nat) (a b : Int32) : pFor v π n a b ≤ n := by
  have := pGo_le v π a b n 0
  unfold pFor; omega
theorem nI_litge {i n : Nat} (h : i < n) (hn : n < 2 ^ 31) {x : Int32} (hx : x = nI n) : ¬ x ≤ nI i := by rw [hx]; exact nI_ge h hn
/-- is there a cue of the list a at the place p -/
abbrev inB (v : Nat → Nat → Nat → Int32) (π : Nat → Nat) (n : Nat) (a : Int32) (p : Nat) : Prop := p < n ∧ v 10 (π p) 0 = a
/-- moves of the first k places -/
def mvs (v : Nat → Nat → Nat → Int32) (π : Nat → Nat) : Nat → Int32
  | 0 => 0
  | k + 1 => mvs v π k + v 16 (π k) 0
/-- how many of the first k channels the row b has and the row a lacks -/
def lacks (v : Nat → Nat → Nat → Int32) (a b : Nat) : Nat → Int32
  | 0 => 0
  | k + 1 => if ¬ v 17 b k = -1 ∧ v 17 a k = -1 then lacks v a b k + 1 else lacks v a b k
/-- an answer that is a place or NONE -/
def oI : Option Nat → Int32
  | none => -1
  | some p => nI p
theorem nI_nm1 {p : Nat} (h : p < 2 ^ 31) : ¬ nI p = -1 := fun q => absurd (show nI p < 0 by rw [q]; decide) (nI_pos h)
theorem nI_dec (x : Int32) : x + Int32.ofInt (-1) = x - 1 := by
  rw [Int32.sub_eq_add_neg]; rfl
/-- the last place below k, of the list a, whose cue has a move of the channel (no other list's cue between) -/
def sGo (v : Nat → Nat → Nat → Int32) (π : Nat → Nat) (a : Int32) (ch : Nat) : Nat → Option Nat
  | 0 => none
  | k + 1 => if v 10 (π k) 0 = a then (if v 17 (π k) ch = -1 then sGo v π a ch k else some k) else none
theorem sGo_lt {v : Nat → Nat → Nat → Int32} {π : Nat → Nat} {a : Int32} {ch : Nat} : ∀ {k p : Nat}, sGo v π a ch k = some p → p < k := by
  intro k
  induction k with
  | zero => intro p h; cases h
  | succ k ih =>
    intro p h
    unfold sGo at h
    split at h
    · split at h
      · exact Nat.lt_succ_of_lt (ih h)
      · cases h; exact Nat.lt_succ_self _
    · cases h
def srcO (v : Nat → Nat → Nat → Int32) (π : Nat → Nat) (ch : Nat) : Option Nat → Option Nat
  | none => none
  | some p => sGo v π (v 10 (π p) 0) ch (p + 1)
theorem srcO_lt {v : Nat → Nat → Nat → Int32} {π : Nat → Nat} {ch n : Nat} {X : Option Nat} (hX : ∀ p, X = some p → p < n) : ∀ q, srcO v π ch X = some q → q < n := by
  intro q h
  cases X with
  | none => cases h
  | some p => exact Nat.lt_of_le_of_lt (Nat.le_of_lt_succ (sGo_lt h)) (hX p rfl)
def trk (v : Nat → Nat → Nat → Int32) (π : Nat → Nat) (ch : Nat) (X : Option Nat) : Int32 := match srcO v π ch X with
  | none => -1
  | some p => v 17 (π p) ch
/-- where a cue is; the next above a number, the next below it -/
def fndO (v : Nat → Nat → Nat → Int32) (π : Nat → Nat) (n : Nat) (a b : Int32) : Option Nat := if inB v π n a (pFor v π n a b) ∧ v 11 (π (pFor v π n a b)) 0 = b then some (pFor v π n a b) else none
def abvO (v : Nat → Nat → Nat → Int32) (π : Nat → Nat) (n : Nat) (a b : Int32) : Option Nat := if inB v π n a (pFor v π n a (b + 1)) then some (pFor v π n a (b + 1)) else none
def blwO (v : Nat → Nat → Nat → Int32) (π : Nat → Nat) (n : Nat) (a b : Int32) : Option Nat := match pFor v π n a b with
  | 0 => none
  | p + 1 => if inB v π n a p then some p else none
theorem fndO_lt {v : Nat → Nat → Nat → Int32} {π : Nat → Nat} {n : Nat} {a b : Int32} : ∀ p, fndO v π n a b = some p → p < n := by
  intro p h
  unfold fndO at h
  split at h
  · rename_i h1; cases h; exact h1.1.1
  · cases h
theorem abvO_lt {v : Nat → Nat → Nat → Int32} {π : Nat → Nat} {n : Nat} {a b : Int32} : ∀ p, abvO v π n a b = some p → p < n := by
  intro p h
  unfold abvO at h
  split at h
  · rename_i h1; cases h; exact h1.1
  · cases h
theorem blwO_lt {v : Nat → Nat → Nat → Int32} {π : Nat → Nat} {n : Nat} {a b : Int32} : ∀ p, blwO v π n a b = some p → p < n := by
  intro p h
  unfold blwO at h
  split at h
  · cases h
  · split at h
    · rename_i h1; cases h; exact h1.1
    · cases h
/-- a whole array is written -/
def vRow (v : Nat → Nat → Nat → Int32) (f j : Nat) (u : Nat → Int32) : Nat → Nat → Nat → Int32 := fun f' j' => if f' = f ∧ j' = j then u else v f' j'
theorem xG_row {ca : Nat → ClassId} {ad : Nat → Nat} {v : Nat → Nat → Nat → Int32} {π : Nat → Nat} {f j k0 : Nat} {u : Nat → Int32} {e : va_E} (hk : xOwn f j = k0) (he : xG ca ad (vRow v f j u, π) k0 = e) : ∀ k', k' < 165 → xG ca ad (vRow v f j u, π) k' = if k' = k0 then e else xG ca ad (v, π) k' := by
  intro k' hk'
  by_cases h : k' = k0
  · rw [if_pos h, h, he]
  · rw [if_neg h]
    refine xG_congr (fun q hq => ?_)
    have h1 := xDep_own k' hk' q hq
    have h2 : ¬ (q.1 = f ∧ q.2 = j) := fun z => h (by rw [← h1, z.1, z.2, hk])
    simp [vRow, h2]
def vDropAll (v : Nat → Nat → Nat → Int32) (j : Nat) : Nat → Nat → Nat → Int32 := up3 (vRow v 17 j (fun i => if i < 64 then -1 else v 17 j i)) 16 j 0 0
def vBegin (v : Nat → Nat → Nat → Int32) (j : Nat) (a b : Int32) : Nat → Nat → Nat → Int32 := vDropAll (up3 (up3 (up3 (up3 (up3 (up3 v 10 j 0 a) 11 j 0 b) 12 j 0 0) 13 j 0 0) 14 j 0 0) 15 j 0 (-1)) j
def cDet (v : Nat → Nat → Nat → Int32) (j w : Nat) : Int32 := if w = 0 then v 11 j 0 else if w = 1 then v 16 j 0 else if w = 2 then v 12 j 0 else if w = 3 then v 13 j 0 else if w = 4 then v 14 j 0 else v 15 j 0
/-- a fade begins: playback j, channel ch, level x, by the cue o, at the tick t -/
def vFd (v : Nat → Nat → Nat → Int32) (j ch : Nat) (x : Int32) (o : Nat) (t : Int32) : Nat → Nat → Nat → Int32 :=
  up3 (up3 (up3 (up3 (up3 v 20 j ch (vAt v j ch t)) 21 j ch x) 22 j ch (t + v 14 o 0)) 23 j ch (if x < vAt v j ch t then v 13 o 0 else v 12 o 0)) 24 j ch t
theorem lev_ix {x : Int32} {ch : Nat} (h1 : ¬ x < 0) (h2 : ¬ 272 ≤ x) (h3 : ¬ x < 256) (hch : ch < 64) : (x - 256) * 64 + nI ch = nI ((x.toNatClampNeg - 256) * 64 + ch) ∧ (x.toNatClampNeg - 256) * 64 + ch < 1024 := by
  rcases pk_ix x (n := 272) (by decide) with h | h | ⟨q, hq, rfl⟩
  · exact absurd h h1
  · exact absurd h h2
  · have h4 : 256 ≤ q := Nat.not_lt.mp (fun z => h3 (nI_lt z (by decide)))
    rw [nI_clamp (by omega), show (256 : Int32) = nI 256 from rfl, show (64 : Int32) = nI 64 from rfl, pk_sub h4, pk_mul, nI_add]
    exact ⟨rfl, by omega⟩
def orU (x : Int32) : Int32 := if x = -1 then 272 else x
