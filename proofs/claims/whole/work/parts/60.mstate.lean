/-! THE MODEL'S STATE: w f i: its field f (0 thrown, 22 now, 23 starts; 1 .. 21 its arrays), at the place i -/
section USH
variable {p : Program} {l : Launch} {e : Env} {R : Room} {s : State} {m : MethodId} {args : Array Value} {below : List Frame} {meth : Method} {c : Code} {H H0 : Heap} {locs : List Loc} {cells slots : Nat} {Q : State → Prop}
variable {cc : ByteArray} {pc nL : Nat} {ls : Array Slot} {rest : List Value} {D : va_G} {cl : List vw_C} {A : Nat → Prop} {tys : List (ClassId × FieldType)} {Ts : List Cond} {own : String} {N : Nat} {ad : Nat → Nat} {g g' : Nat → va_E}
theorem ur_sald (S : CallFix p m c cc nL s args Ts own) (hK : va_K D cl tys s) (hP : va_P D cl (uw N ad g) H) {k : Nat} (hk : k < N) (t0 : Nat) {cA : ClassId} {n : Nat} {f : Nat → Int32} (hg : g k = .inl (cA, n, .inl f)) (ht : tys[t0]? = some (cA, .short)) {j : Nat} {i : Int32} (hi : i = nI j) (hj : j < n) (hn : n < 2 ^ 31) (hdg : decode cc pc = .ok (.saload, 1))
    (kk : W p l e R s m args below meth c H locs cells slots Q (F0 m (pc + 1) ls (.int (f j) :: rest))) : W p l e R s m args below meth c H locs cells slots Q (F0 m pc ls (.int i :: .ref (ad k) :: rest)) := by
  subst hi
  refine va_sald S.1 S.2.1 hK hP k t0 (uw_at hk hg) ht (vp_in_nI hj hn) hdg ?_
  rw [nI_clamp (Nat.lt_trans hj hn)]
  exact kk
theorem ur_sast (S : CallFix p m c cc nL s args Ts own) (hK : va_K D cl tys s) (hP : va_P D cl (uw N ad g) H) (hD : va_D A (uw N ad g)) (hS : va_S A H0 H locs) {k : Nat} (hk : k < N) (t0 : Nat) {cA : ClassId} {n : Nat} {f : Nat → Int32} (hg : g k = .inl (cA, n, .inl f)) (ht : tys[t0]? = some (cA, .short)) {j : Nat} {i x : Int32} (hi : i = nI j) (hj : j < n) (hn : n < 2 ^ 31) (hx : vp_nar .short x = x) (hu : ∀ k', k' < N → va_up g k (.inl (cA, n, .inl (upd f j x))) k' = g' k') (hdg : decode cc pc = .ok (.sastore, 1))
    (kk : ∀ (H1 : Heap) (locs1 : List Loc), va_P D cl (uw N ad g') H1 → va_S A H0 H1 locs1 → W p l e R s m args below meth c H1 locs1 cells slots Q (F0 m (pc + 1) ls rest)) : W p l e R s m args below meth c H locs cells slots Q (F0 m pc ls (.int x :: .int i :: .ref (ad k) :: rest)) := by
  subst hi
  refine va_sast S.1 S.2.1 hK hP hD hS k t0 (uw_at hk hg) ht (vp_in_nI hj hn) hdg (fun H1 locs1 h1 _ h3 => kk H1 locs1 ?_ h3)
  rw [nI_clamp (Nat.lt_trans hj hn), hx, uw_set hk, uw_congr hu] at h1
  exact h1
end USH
abbrev mS : Type := Nat → Nat → Int32
def up2 (w : Nat → Nat → Int32) (f i : Nat) (x : Int32) : Nat → Nat → Int32 := fun f' i' => if f' = f then (if i' = i then x else w f' i') else w f' i'
theorem up2_s (w : Nat → Nat → Int32) (f i : Nat) (x : Int32) : up2 w f i x f i = x := by simp [up2]
theorem up2_f {w : Nat → Nat → Int32} {f i f' i' : Nat} {x : Int32} (h : f' ≠ f) : up2 w f i x f' i' = w f' i' := by simp [up2, h]
theorem up2_i {w : Nat → Nat → Int32} {f i f' i' : Nat} {x : Int32} (h : i' ≠ i) : up2 w f i x f' i' = w f' i' := by simp [up2, h]
theorem up2_row (w : Nat → Nat → Int32) (f i : Nat) (x : Int32) : up2 w f i x f = upd (w f) i x := by
  funext i'
  simp [up2, upd]
def mTy : Nat → Nat := fun k => match k with
  | 1 => 1 | 2 => 4 | 3 => 4 | 10 => 4 | 11 => 4 | 17 => 4 | 18 => 4 | _ => 0
def mLen : Nat → Nat := fun k => match k with
  | 1 => 64 | 2 => 64 | 3 => 1024 | 10 => 2560 | 11 => 64 | 12 => 6 | 13 => 6 | 14 => 6 | 15 => 6 | 16 => 6 | 17 => 384 | 18 => 384 | 19 => 384 | 20 => 384 | 21 => 384 | _ => 40
def mObj (ad : Nat → Nat) (w : mS) : List Value := [.int (w 0 0), .ref (ad 1), .ref (ad 2), .ref (ad 3), .ref (ad 4), .ref (ad 5), .ref (ad 6), .ref (ad 7), .ref (ad 8), .ref (ad 9), .ref (ad 10), .ref (ad 11), .ref (ad 12), .ref (ad 13), .ref (ad 14), .ref (ad 15), .ref (ad 16), .ref (ad 17), .ref (ad 18), .ref (ad 19), .ref (ad 20), .ref (ad 21), .int (w 22 0), .int (w 23 0)]
def mG (ca : Nat → ClassId) (ad : Nat → Nat) (w : mS) (k : Nat) : va_E := if k = 0 then .inr (6, mObj ad w) else .inl (ca (mTy k), mLen k, .inl (w k))
section MG
variable {ca : Nat → ClassId} {ad : Nat → Nat} {w : mS}
theorem mg_obj : mG ca ad w 0 = .inr (6, mObj ad w) := rfl
theorem mg_arr (k : Nat) (h : k ≠ 0) : mG ca ad w k = .inl (ca (mTy k), mLen k, .inl (w k)) := by unfold mG; rw [if_neg h]
theorem ms_arr (k : Nat) (h : k ≠ 0) (h0 : k ≠ 22) (h1 : k ≠ 23) {i : Nat} {x : Int32} : ∀ k', k' < 22 → va_up (mG ca ad w) k (.inl (ca (mTy k), mLen k, .inl (upd (w k) i x))) k' = mG ca ad (up2 w k i x) k' := by
  intro k' hk'
  by_cases hk : k' = k
  · subst hk
    rw [va_up_self, mg_arr _ h, up2_row]
  · rw [va_up_ne _ _ hk]
    by_cases h2 : k' = 0
    · subst h2
      rw [mg_obj, mg_obj]
      simp [mObj, up2, Ne.symm h, Ne.symm h0, Ne.symm h1]
    · rw [mg_arr _ h2, mg_arr _ h2]
      have : up2 w k i x k' = w k' := by funext z; simp [up2, hk]
      rw [this]
theorem ms_int (f : Nat) (hf : f = 0 ∨ f = 22 ∨ f = 23) {x : Int32} {e : va_E} (he : mG ca ad (up2 w f 0 x) 0 = e) : ∀ k', k' < 22 → va_up (mG ca ad w) 0 e k' = mG ca ad (up2 w f 0 x) k' := by
  intro k' hk'
  by_cases hk : k' = 0
  · subst hk
    rw [va_up_self, he]
  · rw [va_up_ne _ _ hk, mg_arr _ hk, mg_arr _ hk]
    have : up2 w f 0 x k' = w k' := by
      funext z
      have h2 : k' ≠ f := by omega
      simp [up2, h2]
    rw [this]
theorem ms_thr {x : Int32} : ∀ k', k' < 22 → va_up (mG ca ad w) 0 (.inr (6, (mObj ad w).set 0 (.int x))) k' = mG ca ad (up2 w 0 0 x) k' := ms_int 0 (Or.inl rfl) (by rw [mg_obj]; simp [mObj, up2])
theorem ms_now {x : Int32} : ∀ k', k' < 22 → va_up (mG ca ad w) 0 (.inr (6, (mObj ad w).set 22 (.int x))) k' = mG ca ad (up2 w 22 0 x) k' := ms_int 22 (Or.inr (Or.inl rfl)) (by rw [mg_obj]; simp [mObj, up2])
theorem ms_sts {x : Int32} : ∀ k', k' < 22 → va_up (mG ca ad w) 0 (.inr (6, (mObj ad w).set 23 (.int x))) k' = mG ca ad (up2 w 23 0 x) k' := ms_int 23 (Or.inr (Or.inr rfl)) (by rw [mg_obj]; simp [mObj, up2])
end MG
def s16 (x : Int32) : Int32 := x.toInt16.toInt32
theorem s16_nar (x : Int32) : vp_nar .short (s16 x) = s16 x := pk_vs x
