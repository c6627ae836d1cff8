/-! THE CLASS'S STATE: every int that it holds is v f j i: field f of the object j, at the place i; the cue at the place p of the book is the object st.2 p. -/
abbrev xS : Type := (Nat → Nat → Nat → Int32) × (Nat → Nat)
def up3 (v : Nat → Nat → Nat → Int32) (f j i : Nat) (x : Int32) : Nat → Nat → Nat → Int32 := fun f' j' i' => if f' = f then (if j' = j then (if i' = i then x else v f' j' i') else v f' j' i') else v f' j' i'
theorem up3_s (v : Nat → Nat → Nat → Int32) (f j i : Nat) (x : Int32) : up3 v f j i x f j i = x := by simp [up3]
theorem up3_f {v : Nat → Nat → Nat → Int32} {f j i f' j' i' : Nat} {x : Int32} (h : f' ≠ f) : up3 v f j i x f' j' i' = v f' j' i' := by simp [up3, h]
theorem up3_j {v : Nat → Nat → Nat → Int32} {f j i f' j' i' : Nat} {x : Int32} (h : j' ≠ j) : up3 v f j i x f' j' i' = v f' j' i' := by simp [up3, h]
theorem up3_i {v : Nat → Nat → Nat → Int32} {f j i f' j' i' : Nat} {x : Int32} (h : i' ≠ i) : up3 v f j i x f' j' i' = v f' j' i' := by simp [up3, h]
theorem up3_row (v : Nat → Nat → Nat → Int32) (f j i : Nat) (x : Int32) : up3 v f j i x f j = upd (v f j) i x := by
  funext i'
  simp [up3, upd]
/-- array classes: 0 int, 1 boolean, 2 Cue, 3 Player, 4 short, 5 long -/
def tysAll (ca : Nat → ClassId) : List (ClassId × FieldType) := [(ca 0, .int), (ca 1, .boolean), (ca 2, .object "LightingDesk$Cue"), (ca 3, .object "LightingDesk$Player"), (ca 4, .short), (ca 5, .long)]
def xRefs (g : Nat → Option Nat) : (Nat → Int32) ⊕ (Nat → Int64) ⊕ (Nat → UInt32) ⊕ (Nat → UInt64) ⊕ (Nat → Option Nat) := .inr (.inr (.inr (.inr g)))
def xDesk (ad : Nat → Nat) (v : Nat → Nat → Nat → Int32) : List Value := [.ref (ad 1), .ref (ad 87), .ref (ad 2), .ref (ad 4), .ref (ad 6), .int (v 5 0 0), .int (v 6 0 0)]
def xCue (ad : Nat → Nat) (v : Nat → Nat → Nat → Int32) (j : Nat) : List Value := [.ref (ad (7 + 2 * j)), .int (v 10 j 0), .int (v 11 j 0), .int (v 12 j 0), .int (v 13 j 0), .int (v 14 j 0), .int (v 15 j 0)]
def xPly (ad : Nat → Nat) (v : Nat → Nat → Nat → Int32) (j : Nat) : List Value := [.ref (ad (130 + 6 * j)), .ref (ad (131 + 6 * j)), .ref (ad (132 + 6 * j)), .ref (ad (133 + 6 * j)), .ref (ad (134 + 6 * j)), .int (v 25 j 0), .int (v 26 j 0), .int (v 27 j 0), .int (v 28 j 0), .int (v 29 j 0)]
/-- what the cell k holds: 0 the desk, 1 attributes, 2 palettes and 3 its levels, 4 the book, 5 its cues, 6 players; rows j (40: the programmer) at 7 + 2 j with their values behind; cues at 89 + j; players at 129 + 6 j with five arrays behind -/
def xG (ca : Nat → ClassId) (ad : Nat → Nat) (st : xS) (k : Nat) : va_E :=
  if k < 7 then (match k with
    | 0 => .inr (5, xDesk ad st.1)
    | 1 => .inl (ca 1, 64, .inl (st.1 0 0))
    | 2 => .inr (1, [.ref (ad 3)])
    | 3 => .inl (ca 0, 1024, .inl (st.1 3 0))
    | 4 => .inr (3, [.ref (ad 5), .int (st.1 4 0 0)])
    | 5 => .inl (ca 2, 40, xRefs (fun i => some (ad (89 + st.2 i))))
    | _ => .inl (ca 3, 6, xRefs (fun i => some (ad (129 + 6 * i)))))
  else if k < 89 then (if (k - 7) % 2 = 0 then .inr (0, [.ref (ad (k + 1)), .int (st.1 16 ((k - 7) / 2) 0)]) else .inl (ca 0, 64, .inl (st.1 17 ((k - 7) / 2))))
  else if k < 129 then .inr (2, xCue ad st.1 (k - 89))
  else (if (k - 129) % 6 = 0 then .inr (4, xPly ad st.1 ((k - 129) / 6)) else .inl (ca 0, 64, .inl (st.1 (19 + (k - 129) % 6) ((k - 129) / 6))))
/-- the cells' number -/
abbrev xN : Nat := 165
section XG
variable {ca : Nat → ClassId} {ad : Nat → Nat} {st : xS}
theorem xg_desk : xG ca ad st 0 = .inr (5, xDesk ad st.1) := rfl
theorem xg_att : xG ca ad st 1 = .inl (ca 1, 64, .inl (st.1 0 0)) := rfl
theorem xg_pal : xG ca ad st 2 = .inr (1, [.ref (ad 3)]) := rfl
theorem xg_lev : xG ca ad st 3 = .inl (ca 0, 1024, .inl (st.1 3 0)) := rfl
theorem xg_book : xG ca ad st 4 = .inr (3, [.ref (ad 5), .int (st.1 4 0 0)]) := rfl
theorem xg_cues : xG ca ad st 5 = .inl (ca 2, 40, .inr (.inr (.inr (.inr (fun i => some (ad (89 + st.2 i))))))) := rfl
theorem xg_plys : xG ca ad st 6 = .inl (ca 3, 6, .inr (.inr (.inr (.inr (fun i => some (ad (129 + 6 * i))))))) := rfl
theorem xg_row {j : Nat} (h : j < 41) : xG ca ad st (7 + 2 * j) = .inr (0, [.ref (ad (8 + 2 * j)), .int (st.1 16 j 0)]) := by
  unfold xG
  rw [if_neg (by omega), if_pos (by omega), if_pos (by omega)]
  rw [show 7 + 2 * j + 1 = 8 + 2 * j by omega, show (7 + 2 * j - 7) / 2 = j by omega]
theorem xg_val {j : Nat} (h : j < 41) : xG ca ad st (8 + 2 * j) = .inl (ca 0, 64, .inl (st.1 17 j)) := by
  unfold xG
  rw [if_neg (by omega), if_pos (by omega), if_neg (by omega), show (8 + 2 * j - 7) / 2 = j by omega]
theorem xg_cue {j : Nat} (h : j < 40) : xG ca ad st (89 + j) = .inr (2, xCue ad st.1 j) := by
  unfold xG
  rw [if_neg (by omega), if_neg (by omega), if_pos (by omega), show 89 + j - 89 = j by omega]
theorem xg_ply {j : Nat} (h : j < 6) : xG ca ad st (129 + 6 * j) = .inr (4, xPly ad st.1 j) := by
  unfold xG
  rw [if_neg (by omega), if_neg (by omega), if_neg (by omega), if_pos (by omega), show (129 + 6 * j - 129) / 6 = j by omega]
theorem xg_arr {j : Nat} (t : Nat) (ht : t < 5) (h : j < 6) : xG ca ad st (130 + t + 6 * j) = .inl (ca 0, 64, .inl (st.1 (20 + t) j)) := by
  unfold xG
  rw [if_neg (by omega), if_neg (by omega), if_neg (by omega), if_neg (by omega), show (130 + t + 6 * j - 129) / 6 = j by omega, show 19 + (130 + t + 6 * j - 129) % 6 = 20 + t by omega]
/-- which cell holds the ints of field f of the object j -/
def xOwn (f j : Nat) : Nat := if f = 0 then 1 else if f = 3 then 3 else if f = 4 then 4 else if f = 5 then 0 else if f = 6 then 0 else if f < 16 then 89 + j else if f = 16 then 7 + 2 * j else if f = 17 then 8 + 2 * j else if f < 25 then f + 110 + 6 * j else 129 + 6 * j
def xDep (k : Nat) : List (Nat × Nat) :=
  if k < 7 then (match k with
    | 0 => [(5, 0), (6, 0)]
    | 1 => [(0, 0)]
    | 3 => [(3, 0)]
    | 4 => [(4, 0)]
    | _ => [])
  else if k < 89 then (if (k - 7) % 2 = 0 then [(16, (k - 7) / 2)] else [(17, (k - 7) / 2)])
  else if k < 129 then [(10, k - 89), (11, k - 89), (12, k - 89), (13, k - 89), (14, k - 89), (15, k - 89)]
  else (if (k - 129) % 6 = 0 then [(25, (k - 129) / 6), (26, (k - 129) / 6), (27, (k - 129) / 6), (28, (k - 129) / 6), (29, (k - 129) / 6)] else [(19 + (k - 129) % 6, (k - 129) / 6)])
theorem xDep_own : ∀ k, k < 165 → ∀ q ∈ xDep k, xOwn q.1 q.2 = k := by decide +kernel
theorem xG_congr {v v' : Nat → Nat → Nat → Int32} {π : Nat → Nat} {k : Nat} (h : ∀ q ∈ xDep k, v q.1 q.2 = v' q.1 q.2) : xG ca ad (v, π) k = xG ca ad (v', π) k := by
  unfold xG
  unfold xDep at h
  by_cases h1 : k < 7
  · rw [if_pos h1] at h ⊢
    rw [if_pos h1]
    rcases (by omega : k = 0 ∨ k = 1 ∨ k = 2 ∨ k = 3 ∨ k = 4 ∨ k = 5 ∨ k = 6) with rfl | rfl | rfl | rfl | rfl | rfl | rfl <;> simp at h <;> simp [xDesk, h]
  · rw [if_neg h1] at h ⊢
    rw [if_neg h1]
    by_cases h2 : k < 89
    · rw [if_pos h2] at h ⊢
      rw [if_pos h2]
      by_cases h3 : (k - 7) % 2 = 0
      · rw [if_pos h3] at h ⊢
        rw [if_pos h3]
        simp at h
        simp [h]
      · rw [if_neg h3] at h ⊢
        rw [if_neg h3]
        simp at h
        simp [h]
    · rw [if_neg h2] at h ⊢
      rw [if_neg h2]
      by_cases h3 : k < 129
      · rw [if_pos h3] at h ⊢
        rw [if_pos h3]
        simp at h
        simp [xCue, h]
      · rw [if_neg h3] at h ⊢
        rw [if_neg h3]
        by_cases h4 : (k - 129) % 6 = 0
        · rw [if_pos h4] at h ⊢
          rw [if_pos h4]
          simp at h
          simp [xPly, h]
        · rw [if_neg h4] at h ⊢
          rw [if_neg h4]
          simp at h
          simp [h]
/-- an int is written: its cell alone changes -/
theorem xG_set {v : Nat → Nat → Nat → Int32} {π : Nat → Nat} {f j i k0 : Nat} {x : Int32} {e : va_E} (hk : xOwn f j = k0) (he : xG ca ad (up3 v f j i x, π) k0 = e) : ∀ k', k' < 165 → va_up (xG ca ad (v, π)) k0 e k' = xG ca ad (up3 v f j i x, π) k' := by
  intro k' hk'
  by_cases h : k' = k0
  · subst h
    rw [va_up_self, he]
  · rw [va_up_ne _ _ h]
    refine xG_congr (fun q hq => ?_)
    have h1 := xDep_own k' hk' q hq
    funext i'
    by_cases h2 : q.1 = f
    · have h3 : q.2 ≠ j := fun z => h (by rw [← h1, h2, z, hk])
      rw [up3_j h3]
    · rw [up3_f h2]
theorem xs_now {v : Nat → Nat → Nat → Int32} {π : Nat → Nat} {x : Int32} : ∀ k', k' < 165 → va_up (xG ca ad (v, π)) 0 (.inr (5, [.ref (ad 1), .ref (ad 87), .ref (ad 2), .ref (ad 4), .ref (ad 6), .int x, .int (v 6 0 0)])) k' = xG ca ad (up3 v 5 0 0 x, π) k' := by
  refine xG_set (by simp [xOwn]) ?_
  rw [xg_desk]
  simp [xDesk, xCue, xPly, up3]
theorem xs_started {v : Nat → Nat → Nat → Int32} {π : Nat → Nat} {x : Int32} : ∀ k', k' < 165 → va_up (xG ca ad (v, π)) 0 (.inr (5, [.ref (ad 1), .ref (ad 87), .ref (ad 2), .ref (ad 4), .ref (ad 6), .int (v 5 0 0), .int x])) k' = xG ca ad (up3 v 6 0 0 x, π) k' := by
  refine xG_set (by simp [xOwn]) ?_
  rw [xg_desk]
  simp [xDesk, xCue, xPly, up3]
theorem xs_size {v : Nat → Nat → Nat → Int32} {π : Nat → Nat} {x : Int32} : ∀ k', k' < 165 → va_up (xG ca ad (v, π)) 4 (.inr (3, [.ref (ad 5), .int x])) k' = xG ca ad (up3 v 4 0 0 x, π) k' := by
  refine xG_set (by simp [xOwn]) ?_
  rw [xg_book]
  simp [xDesk, xCue, xPly, up3]
theorem xs_held {v : Nat → Nat → Nat → Int32} {π : Nat → Nat} {j : Nat} (h : j < 41) {x : Int32} : ∀ k', k' < 165 → va_up (xG ca ad (v, π)) (7 + 2 * j) (.inr (0, [.ref (ad (8 + 2 * j)), .int x])) k' = xG ca ad (up3 v 16 j 0 x, π) k' := by
  refine xG_set (by simp [xOwn]) ?_
  rw [xg_row h]
  simp [xDesk, xCue, xPly, up3]
theorem xs_clist {v : Nat → Nat → Nat → Int32} {π : Nat → Nat} {j : Nat} (h : j < 40) {x : Int32} : ∀ k', k' < 165 → va_up (xG ca ad (v, π)) (89 + j) (.inr (2, [.ref (ad (7 + 2 * j)), .int x, .int (v 11 j 0), .int (v 12 j 0), .int (v 13 j 0), .int (v 14 j 0), .int (v 15 j 0)])) k' = xG ca ad (up3 v 10 j 0 x, π) k' := by
  refine xG_set (by simp [xOwn]) ?_
  rw [xg_cue h]
  simp [xDesk, xCue, xPly, up3]
theorem xs_cnumber {v : Nat → Nat → Nat → Int32} {π : Nat → Nat} {j : Nat} (h : j < 40) {x : Int32} : ∀ k', k' < 165 → va_up (xG ca ad (v, π)) (89 + j) (.inr (2, [.ref (ad (7 + 2 * j)), .int (v 10 j 0), .int x, .int (v 12 j 0), .int (v 13 j 0), .int (v 14 j 0), .int (v 15 j 0)])) k' = xG ca ad (up3 v 11 j 0 x, π) k' := by
  refine xG_set (by simp [xOwn]) ?_
  rw [xg_cue h]
  simp [xDesk, xCue, xPly, up3]
theorem xs_cup {v : Nat → Nat → Nat → Int32} {π : Nat → Nat} {j : Nat} (h : j < 40) {x : Int32} : ∀ k', k' < 165 → va_up (xG ca ad (v, π)) (89 + j) (.inr (2, [.ref (ad (7 + 2 * j)), .int (v 10 j 0), .int (v 11 j 0), .int x, .int (v 13 j 0), .int (v 14 j 0), .int (v 15 j 0)])) k' = xG ca ad (up3 v 12 j 0 x, π) k' := by
  refine xG_set (by simp [xOwn]) ?_
  rw [xg_cue h]
  simp [xDesk, xCue, xPly, up3]
theorem xs_cdown {v : Nat → Nat → Nat → Int32} {π : Nat → Nat} {j : Nat} (h : j < 40) {x : Int32} : ∀ k', k' < 165 → va_up (xG ca ad (v, π)) (89 + j) (.inr (2, [.ref (ad (7 + 2 * j)), .int (v 10 j 0), .int (v 11 j 0), .int (v 12 j 0), .int x, .int (v 14 j 0), .int (v 15 j 0)])) k' = xG ca ad (up3 v 13 j 0 x, π) k' := by
  refine xG_set (by simp [xOwn]) ?_
  rw [xg_cue h]
  simp [xDesk, xCue, xPly, up3]
theorem xs_cdelay {v : Nat → Nat → Nat → Int32} {π : Nat → Nat} {j : Nat} (h : j < 40) {x : Int32} : ∀ k', k' < 165 → va_up (xG ca ad (v, π)) (89 + j) (.inr (2, [.ref (ad (7 + 2 * j)), .int (v 10 j 0), .int (v 11 j 0), .int (v 12 j 0), .int (v 13 j 0), .int x, .int (v 15 j 0)])) k' = xG ca ad (up3 v 14 j 0 x, π) k' := by
  refine xG_set (by simp [xOwn]) ?_
  rw [xg_cue h]
  simp [xDesk, xCue, xPly, up3]
theorem xs_cfollow {v : Nat → Nat → Nat → Int32} {π : Nat → Nat} {j : Nat} (h : j < 40) {x : Int32} : ∀ k', k' < 165 → va_up (xG ca ad (v, π)) (89 + j) (.inr (2, [.ref (ad (7 + 2 * j)), .int (v 10 j 0), .int (v 11 j 0), .int (v 12 j 0), .int (v 13 j 0), .int (v 14 j 0), .int x])) k' = xG ca ad (up3 v 15 j 0 x, π) k' := by
  refine xG_set (by simp [xOwn]) ?_
  rw [xg_cue h]
  simp [xDesk, xCue, xPly, up3]
theorem xs_plist {v : Nat → Nat → Nat → Int32} {π : Nat → Nat} {j : Nat} (h : j < 6) {x : Int32} : ∀ k', k' < 165 → va_up (xG ca ad (v, π)) (129 + 6 * j) (.inr (4, [.ref (ad (130 + 6 * j)), .ref (ad (131 + 6 * j)), .ref (ad (132 + 6 * j)), .ref (ad (133 + 6 * j)), .ref (ad (134 + 6 * j)), .int x, .int (v 26 j 0), .int (v 27 j 0), .int (v 28 j 0), .int (v 29 j 0)])) k' = xG ca ad (up3 v 25 j 0 x, π) k' := by
  refine xG_set (by simp [xOwn]) ?_
  rw [xg_ply h]
  simp [xDesk, xCue, xPly, up3]
theorem xs_pmaster {v : Nat → Nat → Nat → Int32} {π : Nat → Nat} {j : Nat} (h : j < 6) {x : Int32} : ∀ k', k' < 165 → va_up (xG ca ad (v, π)) (129 + 6 * j) (.inr (4, [.ref (ad (130 + 6 * j)), .ref (ad (131 + 6 * j)), .ref (ad (132 + 6 * j)), .ref (ad (133 + 6 * j)), .ref (ad (134 + 6 * j)), .int (v 25 j 0), .int x, .int (v 27 j 0), .int (v 28 j 0), .int (v 29 j 0)])) k' = xG ca ad (up3 v 26 j 0 x, π) k' := by
  refine xG_set (by simp [xOwn]) ?_
  rw [xg_ply h]
  simp [xDesk, xCue, xPly, up3]
theorem xs_pcurrent {v : Nat → Nat → Nat → Int32} {π : Nat → Nat} {j : Nat} (h : j < 6) {x : Int32} : ∀ k', k' < 165 → va_up (xG ca ad (v, π)) (129 + 6 * j) (.inr (4, [.ref (ad (130 + 6 * j)), .ref (ad (131 + 6 * j)), .ref (ad (132 + 6 * j)), .ref (ad (133 + 6 * j)), .ref (ad (134 + 6 * j)), .int (v 25 j 0), .int (v 26 j 0), .int x, .int (v 28 j 0), .int (v 29 j 0)])) k' = xG ca ad (up3 v 27 j 0 x, π) k' := by
  refine xG_set (by simp [xOwn]) ?_
  rw [xg_ply h]
  simp [xDesk, xCue, xPly, up3]
theorem xs_pstartTick {v : Nat → Nat → Nat → Int32} {π : Nat → Nat} {j : Nat} (h : j < 6) {x : Int32} : ∀ k', k' < 165 → va_up (xG ca ad (v, π)) (129 + 6 * j) (.inr (4, [.ref (ad (130 + 6 * j)), .ref (ad (131 + 6 * j)), .ref (ad (132 + 6 * j)), .ref (ad (133 + 6 * j)), .ref (ad (134 + 6 * j)), .int (v 25 j 0), .int (v 26 j 0), .int (v 27 j 0), .int x, .int (v 29 j 0)])) k' = xG ca ad (up3 v 28 j 0 x, π) k' := by
  refine xG_set (by simp [xOwn]) ?_
  rw [xg_ply h]
  simp [xDesk, xCue, xPly, up3]
theorem xs_pfollowOn {v : Nat → Nat → Nat → Int32} {π : Nat → Nat} {j : Nat} (h : j < 6) {x : Int32} : ∀ k', k' < 165 → va_up (xG ca ad (v, π)) (129 + 6 * j) (.inr (4, [.ref (ad (130 + 6 * j)), .ref (ad (131 + 6 * j)), .ref (ad (132 + 6 * j)), .ref (ad (133 + 6 * j)), .ref (ad (134 + 6 * j)), .int (v 25 j 0), .int (v 26 j 0), .int (v 27 j 0), .int (v 28 j 0), .int x])) k' = xG ca ad (up3 v 29 j 0 x, π) k' := by
  refine xG_set (by simp [xOwn]) ?_
  rw [xg_ply h]
  simp [xDesk, xCue, xPly, up3]
theorem xs_att {v : Nat → Nat → Nat → Int32} {π : Nat → Nat} {i : Nat} {x : Int32} : ∀ k', k' < 165 → va_up (xG ca ad (v, π)) 1 (.inl (ca 1, 64, .inl (upd (v 0 0) i x))) k' = xG ca ad (up3 v 0 0 i x, π) k' := by
  refine xG_set (by simp [xOwn]) ?_
  rw [xg_att]
  show (.inl (ca 1, 64, .inl (up3 v 0 0 i x 0 0)) : va_E) = _
  rw [up3_row]
theorem xs_lev {v : Nat → Nat → Nat → Int32} {π : Nat → Nat} {i : Nat} {x : Int32} : ∀ k', k' < 165 → va_up (xG ca ad (v, π)) 3 (.inl (ca 0, 1024, .inl (upd (v 3 0) i x))) k' = xG ca ad (up3 v 3 0 i x, π) k' := by
  refine xG_set (by simp [xOwn]) ?_
  rw [xg_lev]
  show (.inl (ca 0, 1024, .inl (up3 v 3 0 i x 3 0)) : va_E) = _
  rw [up3_row]
theorem xs_val {v : Nat → Nat → Nat → Int32} {π : Nat → Nat} {j : Nat} (h : j < 41) {i : Nat} {x : Int32} : ∀ k', k' < 165 → va_up (xG ca ad (v, π)) (8 + 2 * j) (.inl (ca 0, 64, .inl (upd (v 17 j) i x))) k' = xG ca ad (up3 v 17 j i x, π) k' := by
  refine xG_set (by simp [xOwn]) ?_
  rw [xg_val h]
  show (.inl (ca 0, 64, .inl (up3 v 17 j i x 17 j)) : va_E) = _
  rw [up3_row]
theorem xs_a0 {v : Nat → Nat → Nat → Int32} {π : Nat → Nat} {j : Nat} (h : j < 6) {i : Nat} {x : Int32} : ∀ k', k' < 165 → va_up (xG ca ad (v, π)) (130 + 6 * j) (.inl (ca 0, 64, .inl (upd (v 20 j) i x))) k' = xG ca ad (up3 v 20 j i x, π) k' := by
  refine xG_set (by simp [xOwn]) ?_
  rw [xg_arr 0 (by decide) h]
  show (.inl (ca 0, 64, .inl (up3 v 20 j i x 20 j)) : va_E) = _
  rw [up3_row]
theorem xs_a1 {v : Nat → Nat → Nat → Int32} {π : Nat → Nat} {j : Nat} (h : j < 6) {i : Nat} {x : Int32} : ∀ k', k' < 165 → va_up (xG ca ad (v, π)) (131 + 6 * j) (.inl (ca 0, 64, .inl (upd (v 21 j) i x))) k' = xG ca ad (up3 v 21 j i x, π) k' := by
  refine xG_set (by simp [xOwn]) ?_
  rw [xg_arr 1 (by decide) h]
  show (.inl (ca 0, 64, .inl (up3 v 21 j i x 21 j)) : va_E) = _
  rw [up3_row]
theorem xs_a2 {v : Nat → Nat → Nat → Int32} {π : Nat → Nat} {j : Nat} (h : j < 6) {i : Nat} {x : Int32} : ∀ k', k' < 165 → va_up (xG ca ad (v, π)) (132 + 6 * j) (.inl (ca 0, 64, .inl (upd (v 22 j) i x))) k' = xG ca ad (up3 v 22 j i x, π) k' := by
  refine xG_set (by simp [xOwn]) ?_
  rw [xg_arr 2 (by decide) h]
  show (.inl (ca 0, 64, .inl (up3 v 22 j i x 22 j)) : va_E) = _
  rw [up3_row]
theorem xs_a3 {v : Nat → Nat → Nat → Int32} {π : Nat → Nat} {j : Nat} (h : j < 6) {i : Nat} {x : Int32} : ∀ k', k' < 165 → va_up (xG ca ad (v, π)) (133 + 6 * j) (.inl (ca 0, 64, .inl (upd (v 23 j) i x))) k' = xG ca ad (up3 v 23 j i x, π) k' := by
  refine xG_set (by simp [xOwn]) ?_
  rw [xg_arr 3 (by decide) h]
  show (.inl (ca 0, 64, .inl (up3 v 23 j i x 23 j)) : va_E) = _
  rw [up3_row]
theorem xs_a4 {v : Nat → Nat → Nat → Int32} {π : Nat → Nat} {j : Nat} (h : j < 6) {i : Nat} {x : Int32} : ∀ k', k' < 165 → va_up (xG ca ad (v, π)) (134 + 6 * j) (.inl (ca 0, 64, .inl (upd (v 24 j) i x))) k' = xG ca ad (up3 v 24 j i x, π) k' := by
  refine xG_set (by simp [xOwn]) ?_
  rw [xg_arr 4 (by decide) h]
  show (.inl (ca 0, 64, .inl (up3 v 24 j i x 24 j)) : va_E) = _
  rw [up3_row]
theorem xs_cues {v : Nat → Nat → Nat → Int32} {π : Nat → Nat} {i o : Nat} : ∀ k', k' < 165 → va_up (xG ca ad (v, π)) 5 (.inl (ca 2, 40, .inr (.inr (.inr (.inr (va_up (fun i => some (ad (89 + π i))) i (some (ad (89 + o)))))))) ) k' = xG ca ad (v, va_up π i o) k' := by
  intro k' hk'
  by_cases h : k' = 5
  · subst h
    have hf : va_up (fun i => some (ad (89 + π i))) i (some (ad (89 + o))) = fun z => some (ad (89 + va_up π i o z)) := by
      funext z
      by_cases hz : z = i
      · subst hz; simp [va_up]
      · simp [va_up, hz]
    rw [va_up_self, xg_cues, hf]
  · rw [va_up_ne _ _ h]
    unfold xG
    by_cases h1 : k' < 7
    · rw [if_pos h1, if_pos h1]
      rcases (by omega : k' = 0 ∨ k' = 1 ∨ k' = 2 ∨ k' = 3 ∨ k' = 4 ∨ k' = 6) with rfl | rfl | rfl | rfl | rfl | rfl <;> rfl
    · rw [if_neg h1, if_neg h1]
end XG
