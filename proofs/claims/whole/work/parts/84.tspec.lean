/-! The edits' ends, as their methods say them -/
def updPost (v : Nat → Nat → Nat → Int32) (π : Nat → Nat) (n q M : Nat) (r : Int32) (u : xS) : Prop := if mvs v π n + usc v π q 40 M ≤ 600 then u = (uss v π q 40 M, π) ∧ r = bcL (usl v π q 40 M) else u = (v, π) ∧ r = -1
def delPost (v : Nat → Nat → Nat → Int32) (π : Nat → Nat) (n q : Nat) (x : Int32) (M : Nat) (r : Int32) (u : xS) : Prop := u = (vOut (kps v π (π q) M (delK v π n q x)) n, pOut π n q) ∧ r = kps v π (π q) M (delK v π n q x) 16 (π q) 0
def blkPost (v : Nat → Nat → Nat → Int32) (π : Nat → Nat) (n q : Nat) (x : Int32) (M : Nat) (r : Int32) (u : xS) : Prop := if x = 0 then u = (ubs v π q (blwO v π n (v 10 (π q) 0) (v 11 (π q) 0)) M, π) ∧ r = ubs v π q (blwO v π n (v 10 (π q) 0) (v 11 (π q) 0)) M 16 (π q) 0
  else if mvs v π n + bkc v π q M ≤ 600 then u = (bks v π q M, π) ∧ r = bks v π q M 16 (π q) 0 else u = (v, π) ∧ r = -1
