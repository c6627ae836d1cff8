/-! Words for the class's answers and states -/
def pI (P : Prop) [Decidable P] : Int32 := if P then 1 else 0
theorem pI_no {P : Prop} [Decidable P] (h : pI P = 0) : ¬ P := by
  intro hp
  simp [pI, hp] at h
theorem pI_yes {P : Prop} [Decidable P] (h : ¬ pI P = 0) : P := by
  by_cases hp : P
  · exact hp
  · exact absurd (by simp [pI, hp]) h
theorem pI_nar {P : Prop} [Decidable P] : narrow .boolean (.int (pI P)) = .int (pI P) := by
  by_cases hp : P
  · simp only [pI, hp, if_true]; rfl
  · simp only [pI, hp, if_false]; rfl
abbrev isCh (c : Int32) : Prop := ¬ c < 0 ∧ ¬ 64 ≤ c
abbrev isLv (c : Int32) : Prop := ¬ c < 0 ∧ ¬ 255 < c
abbrev isPal (c : Int32) : Prop := ¬ c < 0 ∧ ¬ 16 ≤ c
abbrev isLst (c : Int32) : Prop := ¬ c < 0 ∧ ¬ 4 ≤ c
abbrev isNum (c : Int32) : Prop := ¬ c < 1 ∧ ¬ 9999 < c
abbrev isPb (c : Int32) : Prop := ¬ c < 0 ∧ ¬ 6 ≤ c
abbrev isTm (c : Int32) : Prop := ¬ c < 0 ∧ ¬ 10000 < c
theorem isCh_nat {c : Int32} (h : isCh c) : ∃ j : Nat, j < 64 ∧ c = nI j := by
  rcases pk_ix c (n := 64) (by decide) with h1 | h1 | h1
  · exact absurd h1 h.1
  · exact absurd h1 h.2
  · exact h1
theorem isPal_nat {c : Int32} (h : isPal c) : ∃ j : Nat, j < 16 ∧ c = nI j := by
  rcases pk_ix c (n := 16) (by decide) with h1 | h1 | h1
  · exact absurd h1 h.1
  · exact absurd h1 h.2
  · exact h1
theorem isPb_nat {c : Int32} (h : isPb c) : ∃ j : Nat, j < 6 ∧ c = nI j := by
  rcases pk_ix c (n := 6) (by decide) with h1 | h1 | h1
  · exact absurd h1 h.1
  · exact absurd h1 h.2
  · exact h1
/-- a row's put and drop, of the row j -/
def vPut (v : Nat → Nat → Nat → Int32) (j ch : Nat) (x : Int32) : Nat → Nat → Nat → Int32 := if v 17 j ch = -1 then up3 (up3 v 16 j 0 (v 16 j 0 + 1)) 17 j ch x else up3 v 17 j ch x
def vDrop (v : Nat → Nat → Nat → Int32) (j ch : Nat) : Nat → Nat → Nat → Int32 := if v 17 j ch = -1 then up3 v 17 j ch (-1) else up3 (up3 v 16 j 0 (v 16 j 0 - 1)) 17 j ch (-1)
/-- a value's level on a channel -/
def vLev (v : Nat → Nat → Nat → Int32) (x : Int32) (ch : Nat) : Int32 := if x < 0 then -1 else if 272 ≤ x then -1 else if x < 256 then x else v 3 0 ((x.toNatClampNeg - 256) * 64 + ch)
/-- a playback's level of a channel at a tick -/
def vFade (fr to bg ln x : Int32) : Int32 := if 0 ≤ x - bg then (if x - bg < ln then fr + (to - fr) * (x - bg) / ln else to) else fr
def vAt (v : Nat → Nat → Nat → Int32) (j ch : Nat) (x : Int32) : Int32 := vFade (v 20 j ch) (v 21 j ch) (v 22 j ch) (v 23 j ch) x
theorem kb_V {j : Nat} (h : j < 41) : 7 + 2 * j < 165 := by omega
theorem kb_W {j : Nat} (h : j < 41) : 8 + 2 * j < 165 := by omega
theorem kb_C {j : Nat} (h : j < 40) : 89 + j < 165 := by omega
theorem kb_Y {j : Nat} (h : j < 6) : 129 + 6 * j < 165 := by omega
theorem kb_A {j : Nat} (t : Nat) (ht : t < 5) (h : j < 6) : 130 + t + 6 * j < 165 := by omega
