/-! Words for record, update, delete -/
theorem vBegin_4 {v : Nat → Nat → Nat → Int32} {j : Nat} {a b : Int32} {i : Nat} : vBegin v j a b 4 0 i = v 4 0 i := by
  simp [vBegin, vDropAll, vRow, up3]
theorem xBk_ins {v : Nat → Nat → Nat → Int32} {π : Nat → Nat} {n q : Nat} {a b : Int32} (h : xBk v π n) (hn : n < 40) (hq : q ≤ n) : xBk (vIns v π n a b) (pIns π n q) (n + 1) := by
  refine ⟨?_, hn, ?_⟩
  · unfold vIns; rw [vBegin_4, up3_s]
  · exact up_lt (isp_lt hn h.2.2 _) (h.2.2 _ (by omega))
def kl (v : Nat → Nat → Nat → Int32) (π : Nat → Nat) (M : Nat) : Option Nat → Int32
  | none => 0
  | some p => lacks v (π p) 40 M
def kps (v : Nat → Nat → Nat → Int32) (π : Nat → Nat) (k M : Nat) : Option Nat → Nat → Nat → Nat → Int32
  | none => v
  | some p => kp v π p k M
/-- the cue that keeps, if it is so wished -/
def kpr (v : Nat → Nat → Nat → Int32) (π : Nat → Nat) (n : Nat) (a b c : Int32) : Option Nat := if c = 0 then none else abvO v π n a b
/-- RECORD: r and u, of the cue a, b -/
def recPost (v : Nat → Nat → Nat → Int32) (π : Nat → Nat) (n : Nat) (a b c : Int32) (M : Nat) (r : Int32) (u : xS) : Prop :=
  match fndO v π n a b with
  | none => if n = 40 ∨ ¬ mvs v π n + (v 16 40 0 + kl v π M (kpr v π n a b c)) ≤ 600 then u = (v, π) ∧ r = -1
    else u = (pa (kps (vIns v π n a b) (pIns π n (pFor v π n a b)) 40 M ((kpr v π n a b c).map (· + 1))) (pIns π n (pFor v π n a b)) (pFor v π n a b) 40 M, pIns π n (pFor v π n a b)) ∧ r = u.1 16 (u.2 (pFor v π n a b)) 0
  | some _ => if ¬ mvs v π n + (lacks v (π (pFor v π n a b)) 40 M + kl v π M (kpr v π n a b c)) ≤ 600 then u = (v, π) ∧ r = -1
    else u = (pa (kps v π 40 M (kpr v π n a b c)) π (pFor v π n a b) 40 M, π) ∧ r = u.1 16 (u.2 (pFor v π n a b)) 0
theorem i32_add0 (x : Int32) : x + 0 = x := Int32.add_zero x
/-- DELETE of the cue at the place q -/
def delK (v : Nat → Nat → Nat → Int32) (π : Nat → Nat) (n q : Nat) (c : Int32) : Option Nat := if c = 0 then none else abvO v π n (v 10 (π q) 0) (v 11 (π q) 0)
theorem fndO_pf {v : Nat → Nat → Nat → Int32} {π : Nat → Nat} {n : Nat} {a b : Int32} {p : Nat} (h : fndO v π n a b = some p) : p = pFor v π n a b := by
  unfold fndO at h
  split at h
  · cases h; rfl
  · cases h
