/-! Words for the book: n cues, the cue at the place p is the object π p -/
def xBk (v : Nat → Nat → Nat → Int32) (π : Nat → Nat) (n : Nat) : Prop := v 4 0 0 = nI n ∧ n ≤ 40 ∧ ∀ p, p < 40 → π p < 40
abbrev bef (v : Nat → Nat → Nat → Int32) (π : Nat → Nat) (a b : Int32) (p : Nat) : Prop := v 10 (π p) 0 < a ∨ (v 10 (π p) 0 = a ∧ v 11 (π p) 0 < b)
/-- the first place from p on, k further at most, that is not before -/
def pGo (v : Nat → Nat → Nat → Int32) (π : Nat → Nat) (a b : Int32) : Nat → Nat → Nat
  | 0, p => p
  | k + 1, p => if bef v π a b p then pGo v π a b k (p + 1) else p
def pFor (v : Nat → Nat → Nat → Int32) (π : Nat → Nat) (n : Nat) (a b : Int32) : Nat := pGo v π a b n 0
theorem pGo_le (v : Nat → Nat → Nat → Int32) (π : Nat → Nat) (a b : Int32) : ∀ k p, pGo v π a b k p ≤ p + k := by
  intro k
  induction k with
  | zero => intro p; exact Nat.le_refl _
  | succ k ih =>
    intro p
    unfold pGo
    split
    · have := ih (p + 1); omega
    · omega
theorem pFor_le (v : Nat → Nat → Nat → Int32) (π : Nat → Nat) (n : Nat) (a b : Int32) : pFor v π n a b ≤ n := by
  have := pGo_le v π a b n 0
  unfold pFor; omega
theorem nI_litge {i n : Nat} (h : i < n) (hn : n < 2 ^ 31) {x : Int32} (hx : x = nI n) : ¬ x ≤ nI i := by rw [hx]; exact nI_ge h hn
/-- is there a cue of the list a at the place p -/
abbrev inB (v : Nat → Nat → Nat → Int32) (π : Nat → Nat) (n : Nat) (a : Int32) (p : Nat) : Prop := p < n ∧ v 10 (π p) 0 = a
/-- moves of the first k places -/
def mvs (v : Nat → Nat → Nat → Int32) (π : Nat → Nat) : Nat → Int32
  | 0 => 0
  | k + 1 => mvs v π k + v 16 (π k) 0
/-- how many of the first k channels the row b has and the row a lacks -/
def lacks (v : Nat → Nat → Nat → Int32) (a b : Nat) : Nat → Int32
  | 0 => 0
  | k + 1 => if ¬ v 17 b k = -1 ∧ v 17 a k = -1 then lacks v a b k + 1 else lacks v a b k
/-- the last place up to p, of p's list, whose cue has a move of the channel -/
def sGo (v : Nat → Nat → Nat → Int32) (π : Nat → Nat) (a : Int32) (ch : Nat) : Nat → Int32
  | 0 => -1
  | k + 1 => if v 10 (π k) 0 = a then (if v 17 (π k) ch = -1 then sGo v π a ch k else nI k) else -1
def vDropAll (v : Nat → Nat → Nat → Int32) (j : Nat) : Nat → Nat → Nat → Int32 := fun f j' i => if f = 17 ∧ j' = j ∧ i < 64 then -1 else if f = 16 ∧ j' = j ∧ i = 0 then 0 else v f j' i
