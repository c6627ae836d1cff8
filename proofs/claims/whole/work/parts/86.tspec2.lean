/-! Words for look, source, cue, go, out, playback -/
def xNum (v : Nat → Nat → Nat → Int32) (π : Nat → Nat) : Option Nat → Int32
  | none => -1
  | some p => v 11 (π p) 0
abbrev xCok (len x2 x3 : Int32) : Prop := ¬ x2 < 0 ∧ ¬ len ≤ x2 ∧ ¬ x3 < 0 ∧ x3 ≤ 5
theorem cue_in {v : Nat → Nat → Nat → Int32} {π : Nat → Nat} {n k : Nat} {a : Int32} (hn : n ≤ 40) (hk : k < 2 ^ 31) (h : ¬ nI (pFor v π n (a + 1) 0) - nI (pFor v π n a 0) ≤ nI k) : pFor v π n a 0 + k < n := by
  have h1 := pFor_le v π n (a + 1) 0
  have h2 := pFor_le v π n a 0
  rw [Int32.le_iff_toInt_le, pk_sub_toInt (by omega) (by omega), nI_toInt hk] at h
  omega
theorem isD_nat {x : Int32} (h0 : ¬ x < 0) (h : x ≤ 5) : ∃ j : Nat, j < 6 ∧ x = nI j := by
  rcases pk_ix x (n := 6) (by decide) with h1 | h1 | h1
  · exact absurd h1 h0
  · exact absurd (Int32.le_trans h1 h) (by decide)
  · exact h1
abbrev xTick (v : Nat → Nat → Nat → Int32) (t : Int32) : Prop := ¬ t < v 5 0 0 ∧ ¬ 1000000000 < t
def vTell (v : Nat → Nat → Nat → Int32) (π : Nat → Nat) (n : Nat) (t : Int32) (M Q6 T1 : Nat) : Nat → Nat → Nat → Int32 := up3 (tl π n t M Q6 T1 v) 5 0 0 t
theorem xBk_tell {v : Nat → Nat → Nat → Int32} {π : Nat → Nat} {n : Nat} {t : Int32} {M Q6 T1 : Nat} (h : xBk v π n) : xBk (vTell v π n t M Q6 T1) π n := by
  have h1 := tl_bk (t := t) (M := M) (Q6 := Q6) T1 v h
  refine ⟨?_, h.2⟩
  rw [← h1.1]
  simp [vTell, up3]
def goQ (u : Nat → Nat → Nat → Int32) (π : Nat → Nat) (n j : Nat) (x : Int32) : Option Nat := if x = 0 then abvO u π n (u 25 j 0) (u 27 j 0) else blwO u π n (u 25 j 0) (u 27 j 0)
def outA (u : Nat → Nat → Nat → Int32) (ch Q6 : Nat) : Int32 := if vLev u (u 17 40 ch) ch = -1 then (if u 0 0 ch = 0 then gL u ch Q6 else (lL u ch Q6).1) else vLev u (u 17 40 ch) ch
abbrev xPbok (x1 x2 : Int32) : Prop := isPb x1 ∧ ((¬ x2 < 0 ∧ x2 < 5) ∨ (¬ x2 < 8 ∧ x2 < 72))
def xPbv (v : Nat → Nat → Nat → Int32) (j : Nat) (x : Int32) : Int32 := if x = 0 then v 25 j 0 else if x = 1 then v 27 j 0 else if x = 2 then v 26 j 0 else if x = 3 then v 28 j 0 else if x = 4 then v 29 j 0 else vAt v j (x.toNatClampNeg - 8) (v 5 0 0)
theorem pb_ch {x : Int32} (h1 : ¬ x < 8) (h2 : x < 72) : ∃ k : Nat, k < 64 ∧ x = nI (k + 8) := by
  rcases pk_ix x (n := 72) (by decide) with h | h | ⟨j, hj, rfl⟩
  · exact absurd (Int32.lt_trans h (by decide)) h1
  · exact absurd (Int32.lt_of_lt_of_le h2 h) Int32.lt_irrefl
  · have h3 : 8 ≤ j := Nat.not_lt.mp (fun z => h1 (nI_lt z (by decide)))
    exact ⟨j - 8, by omega, by congr 1; omega⟩
