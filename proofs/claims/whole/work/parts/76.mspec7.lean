/-! note changes what is kept alone -/
theorem mNt_f {w : mS} {q F f i : Nat} (hf : f ≠ 11) : ∀ k, mNt w q F k f i = w f i := by
  intro k
  induction k with
  | zero => rfl
  | succ k ih => rw [mNt, up2_f hf]; exact ih
theorem mNn_f {w : mS} {f i : Nat} (hf : f ≠ 11) : ∀ k, mNn w k f i = w f i := by
  intro k
  induction k with
  | zero => rfl
  | succ k ih => rw [mNn, up2_f hf]; exact ih
theorem mNo_f {w : mS} {F M f i : Nat} (hf : f ≠ 11) (o : Option Nat) : mNo w F M o f i = w f i := by
  cases o with
  | none => exact mNn_f hf M
  | some q => exact mNt_f hf M
theorem mNo_4 {w : mS} {F M i : Nat} {x y : Int32} {o : Option Nat} : mNo (up2 (up2 w 0 0 x) 0 0 y) F M o 4 i = w 4 i := by
  rw [mNo_f (by decide), up2_f (by decide), up2_f (by decide)]
