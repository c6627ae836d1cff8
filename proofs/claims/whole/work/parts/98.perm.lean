/-! THE DESK AS IT IS MADE, in the order of its world -/
theorem bAd_add {a sz b k : Nat} : bAd (bAd a sz b) (sz + b) k = bAd a sz (b + k) := by
  cases k with
  | zero => rfl
  | succ k => rw [bAd_s, show b + (k + 1) = (b + k) + 1 by omega, bAd_s]; omega
theorem bL_l {L M : List va_E} {k : Nat} (h : k < L.length) : bL (L ++ M) k = bL L k := by
  unfold bL
  simp [List.getD, List.getElem?_append_left h]
theorem bL_r {L M : List va_E} {n k : Nat} (h : L.length = n) : bL (L ++ M) (n + k) = bL M k := by
  unfold bL
  rw [List.getD, List.getD, List.getElem?_append_right (by omega), h, Nat.add_sub_cancel_left]
theorem bkC_at {ca : Nat → ClassId} {a sz : Nat} : ∀ i j t, j < i → t < 3 → bL (bkC ca a sz i) (3 * j + t) = bL (cL_C ca (bAd a sz (2 + 3 * j)) (sz + (2 + 3 * j))) t := by
  intro i
  induction i with
  | zero => intro j t h; omega
  | succ i ih =>
    intro j t hj ht
    rw [bkC]
    by_cases h : j < i
    · rw [bL_l (by rw [len_bkC]; omega)]; exact ih j t h ht
    · have : j = i := by omega
      subst this
      exact bL_r (len_bkC j)
theorem dkY_at {ca : Nat → ClassId} {a sz : Nat} : ∀ i j t, j < i → t < 6 → bL (dkY ca a sz i) (6 * j + t) = bL (cL_Y ca (bAd a sz (129 + 6 * j)) (sz + (129 + 6 * j))) t := by
  intro i
  induction i with
  | zero => intro j t h; omega
  | succ i ih =>
    intro j t hj ht
    rw [dkY]
    by_cases h : j < i
    · rw [bL_l (by rw [len_dkY]; omega)]; exact ih j t h ht
    · have : j = i := by omega
      subst this
      exact bL_r (len_dkY j)
def dP (k : Nat) : Nat := if k < 2 then k else if k < 6 then k + 2 else if k = 6 then 128 else if k < 87 then (if (k - 7) % 2 = 0 then 9 + 3 * ((k - 7) / 2) else 10 + 3 * ((k - 7) / 2)) else if k = 87 then 2 else if k = 88 then 3 else if k < 129 then 8 + 3 * (k - 89) else k
theorem dP_lt : ∀ k, k < 165 → dP k < 165 := by decide +kernel
theorem dP_inj : ∀ i, i < 165 → ∀ j, j < 165 → dP i = dP j → i = j := by decide +kernel
theorem dP_row {j : Nat} (h : j < 40) : dP (7 + 2 * j) = 9 + 3 * j := by
  unfold dP
  rw [if_neg (by omega), if_neg (by omega), if_neg (by omega), if_pos (by omega), if_pos (by omega), show (7 + 2 * j - 7) / 2 = j by omega]
theorem dP_val {j : Nat} (h : j < 40) : dP (8 + 2 * j) = 10 + 3 * j := by
  unfold dP
  rw [if_neg (by omega), if_neg (by omega), if_neg (by omega), if_pos (by omega), if_neg (by omega), show (8 + 2 * j - 7) / 2 = j by omega]
theorem dP_cue {j : Nat} (h : j < 40) : dP (89 + j) = 8 + 3 * j := by
  unfold dP
  rw [if_neg (by omega), if_neg (by omega), if_neg (by omega), if_neg (by omega), if_neg (by omega), if_neg (by omega), if_pos (by omega), show 89 + j - 89 = j by omega]
theorem dP_big {k : Nat} (h : 129 ≤ k) : dP k = k := by
  unfold dP
  rw [if_neg (by omega), if_neg (by omega), if_neg (by omega), if_neg (by omega), if_neg (by omega), if_neg (by omega), if_neg (by omega)]
/-- the cells of the book, in the desk's list -/
theorem cD_book {ca : Nat → ClassId} {a sz k : Nat} (h : k < 122) : bL (cL_D ca a sz) (6 + k) = bL (cL_B ca (bAd a sz 6) (sz + 6)) k := by
  rw [cL_D, dkL, bL_l (by rw [len_dkB]; omega), dkB]
  exact bL_r (by simp [len_V, len_P])
theorem cD_cue {ca : Nat → ClassId} {a sz j t : Nat} (hj : j < 40) (ht : t < 3) : bL (cL_D ca a sz) (8 + 3 * j + t) = bL (cL_C ca (bAd a sz (8 + 3 * j)) (sz + (8 + 3 * j))) t := by
  rw [show 8 + 3 * j + t = 6 + (2 + (3 * j + t)) by omega, cD_book (by omega), cL_B, bkL]
  rw [show ∀ (x y : va_E) (l : List va_E), x :: y :: l = [x, y] ++ l from fun _ _ _ => rfl, bL_r (n := 2) rfl, bkC_at 40 j t hj ht, bAd_add]
  rw [show 6 + (2 + 3 * j) = 8 + 3 * j by omega, show sz + 6 + (2 + 3 * j) = sz + (8 + 3 * j) by omega]
theorem cD_ply {ca : Nat → ClassId} {a sz j t : Nat} (hj : j < 6) (ht : t < 6) : bL (cL_D ca a sz) (129 + 6 * j + t) = bL (cL_Y ca (bAd a sz (129 + 6 * j)) (sz + (129 + 6 * j))) t := by
  rw [cL_D, dkL, show ∀ (l : List va_E) (x : va_E) (r : List va_E), l ++ x :: r = (l ++ [x]) ++ r from fun l x r => by simp, show 129 + 6 * j + t = 129 + (6 * j + t) by omega, bL_r (by simp [len_dkB]), dkY_at 6 j t hj ht]
theorem vI_17 {j : Nat} : vI 17 j = fun i => if i < 64 then -1 else 0 := by funext i; simp [vI]
theorem vI_z {f j : Nat} (h : f = 0 ∨ f = 20 ∨ f = 21 ∨ f = 22 ∨ f = 23) : vI f j = fun _ => 0 := by
  funext i
  rcases h with rfl | rfl | rfl | rfl | rfl <;> simp [vI]
theorem vI_24 {j : Nat} : vI 24 j = fun i => if i < 64 then -1 else 0 := by funext i; simp [vI]
theorem vI_3 {j : Nat} : vI 3 j = fun i => if i < 1024 then -1 else 0 := by funext i; simp [vI]
/-- one cell, told in two ways -/
def sameE (x y : va_E) : Prop := x = y ∨ ∃ (c : ClassId) (n : Nat) (f g : Nat → Option Nat), x = .inl (c, n, .inr (.inr (.inr (.inr f)))) ∧ y = .inl (c, n, .inr (.inr (.inr (.inr g)))) ∧ ∀ i, i < n → f i = g i
theorem arrV_same {c : ClassId} {n : Nat} {f g : Nat → Value} (h : ∀ i, i < n → f i = g i) : arrV c n f = arrV c n g := by
  unfold arrV
  congr 1
  congr 1
  funext j
  exact h j.val j.isLt
theorem sameE_at {D : va_G} {cl : List vw_C} {x y : va_E} {a : Nat} {H : Heap} (h : sameE x y) (hx : va_at D cl (a, x) H) : va_at D cl (a, y) H := by
  rcases h with rfl | ⟨c, n, f, g, rfl, rfl, h⟩
  · exact hx
  · have h1 : H[a]? = some (vp_cell c (n, .inr (.inr (.inr (.inr f))))) := hx
    show H[a]? = some (vp_cell c (n, .inr (.inr (.inr (.inr g)))))
    rw [h1, vp_cell_q, vp_cell_q, arrV_same (fun i hi => by rw [h i hi])]
theorem D_perm {ca : Nat → ClassId} {a sz : Nat} : ∀ k, k < 165 → sameE (bL (cL_D ca a sz) (dP k)) (xG ca (fun k => bAd a sz (dP k)) (vI, id) k) := by
  intro k hk
  by_cases h7 : k < 7
  · rcases (by omega : k = 0 ∨ k = 1 ∨ k = 2 ∨ k = 3 ∨ k = 4 ∨ k = 5 ∨ k = 6) with rfl | rfl | rfl | rfl | rfl | rfl | rfl
    · exact Or.inl rfl
    · left
      rw [xg_att]
      show _ = Sum.inl (ca 1, 64, Sum.inl (vI 0 0))
      rw [vI_z (Or.inl rfl)]; rfl
    · left
      rw [xg_pal]
      show bL (cL_D ca a sz) 4 = _
      rw [show bL (cL_D ca a sz) 4 = .inr (1, [.ref (bAd (bAd a sz 4) (sz + 4) 1)]) from rfl, bAd_add]
      rfl
    · left
      rw [xg_lev]
      show _ = Sum.inl (ca 0, 1024, Sum.inl (vI 3 0))
      rw [vI_3]; rfl
    · left
      rw [xg_book]
      show bL (cL_D ca a sz) (6 + 0) = _
      rw [cD_book (by omega), show bL (cL_B ca (bAd a sz 6) (sz + 6)) 0 = .inr (3, [.ref (bAd (bAd a sz 6) (sz + 6) 1), .int 0]) from rfl, bAd_add]
      rfl
    · right
      refine ⟨ca 2, 40, fun j => if j < 40 then some (bAd (bAd a sz 6) (sz + 6) (2 + 3 * j)) else none, _, ?_, xg_cues, ?_⟩
      · show bL (cL_D ca a sz) (6 + 1) = _
        rw [cD_book (by omega)]
        rfl
      · intro i hi
        show (if i < 40 then some (bAd (bAd a sz 6) (sz + 6) (2 + 3 * i)) else none) = some (bAd a sz (dP (89 + i)))
        rw [if_pos hi, bAd_add, dP_cue hi, show 6 + (2 + 3 * i) = 8 + 3 * i by omega]
    · right
      refine ⟨ca 3, 6, fun j => if j < 6 then some (bAd a sz (129 + 6 * j)) else none, _, ?_, xg_plys, ?_⟩
      · show bL (cL_D ca a sz) 128 = _
        rw [cL_D, dkL, bL_at len_dkB]
        rfl
      · intro i hi
        show (if i < 6 then some (bAd a sz (129 + 6 * i)) else none) = some (bAd a sz (dP (129 + 6 * i)))
        rw [if_pos hi, dP_big (by omega)]
  · left
    by_cases h89 : k < 89
    · by_cases h87 : k < 87
      · by_cases hm : (k - 7) % 2 = 0
        · obtain ⟨j, hj, rfl⟩ : ∃ j, j < 40 ∧ k = 7 + 2 * j := ⟨(k - 7) / 2, by omega, by omega⟩
          rw [dP_row hj, xg_row (by omega), show 9 + 3 * j = 8 + 3 * j + 1 by omega, cD_cue hj (by omega)]
          show _ = Sum.inr (0, [Value.ref (bAd a sz (dP (8 + 2 * j))), Value.int 0])
          rw [dP_val hj, show bL (cL_C ca (bAd a sz (8 + 3 * j)) (sz + (8 + 3 * j))) 1 = .inr (0, [.ref (bAd (bAd (bAd a sz (8 + 3 * j)) (sz + (8 + 3 * j)) 1) (sz + (8 + 3 * j) + 1) 1), .int 0]) from rfl, bAd_add, bAd_add, show 8 + 3 * j + (1 + 1) = 10 + 3 * j by omega]
        · obtain ⟨j, hj, rfl⟩ : ∃ j, j < 40 ∧ k = 8 + 2 * j := ⟨(k - 7) / 2, by omega, by omega⟩
          rw [dP_val hj, xg_val (by omega), show 10 + 3 * j = 8 + 3 * j + 2 by omega, cD_cue hj (by omega)]
          show _ = Sum.inl (ca 0, 64, Sum.inl (vI 17 j))
          rw [vI_17]
          rfl
      · rcases (by omega : k = 87 ∨ k = 88) with rfl | rfl
        · show bL (cL_D ca a sz) 2 = xG ca (fun k => bAd a sz (dP k)) (vI, id) (7 + 2 * 40)
          rw [xg_row (by omega), show bL (cL_D ca a sz) 2 = .inr (0, [.ref (bAd (bAd a sz 2) (sz + 2) 1), .int 0]) from rfl, bAd_add]
          rfl
        · show bL (cL_D ca a sz) 3 = xG ca (fun k => bAd a sz (dP k)) (vI, id) (8 + 2 * 40)
          rw [xg_val (by omega)]
          show _ = Sum.inl (ca 0, 64, Sum.inl (vI 17 40))
          rw [vI_17]
          rfl
    · by_cases h129 : k < 129
      · obtain ⟨j, hj, rfl⟩ : ∃ j, j < 40 ∧ k = 89 + j := ⟨k - 89, by omega, by omega⟩
        rw [dP_cue hj, xg_cue hj, show 8 + 3 * j = 8 + 3 * j + 0 by omega, cD_cue hj (by omega)]
        show _ = Sum.inr (2, [Value.ref (bAd a sz (dP (7 + 2 * j))), .int (-1), .int (-1), .int 0, .int 0, .int 0, .int (-1)])
        rw [dP_row hj, show bL (cL_C ca (bAd a sz (8 + 3 * j)) (sz + (8 + 3 * j))) 0 = .inr (2, [.ref (bAd (bAd a sz (8 + 3 * j)) (sz + (8 + 3 * j)) 1), .int (-1), .int (-1), .int 0, .int 0, .int 0, .int (-1)]) from rfl, bAd_add, show 8 + 3 * j + 1 = 9 + 3 * j by omega]
      · rw [dP_big (by omega)]
        by_cases hm : (k - 129) % 6 = 0
        · obtain ⟨j, hj, rfl⟩ : ∃ j, j < 6 ∧ k = 129 + 6 * j := ⟨(k - 129) / 6, by omega, by omega⟩
          rw [xg_ply hj, show 129 + 6 * j = 129 + 6 * j + 0 by omega, cD_ply hj (by omega)]
          show _ = Sum.inr (4, [Value.ref (bAd a sz (dP (130 + 6 * j))), .ref (bAd a sz (dP (131 + 6 * j))), .ref (bAd a sz (dP (132 + 6 * j))), .ref (bAd a sz (dP (133 + 6 * j))), .ref (bAd a sz (dP (134 + 6 * j))), .int (-1), .int 255, .int 0, .int (-1), .int (-1)])
          rw [dP_big (by omega), dP_big (by omega), dP_big (by omega), dP_big (by omega), dP_big (by omega)]
          rw [show bL (cL_Y ca (bAd a sz (129 + 6 * j)) (sz + (129 + 6 * j))) 0 = .inr (4, [.ref (bAd (bAd a sz (129 + 6 * j)) (sz + (129 + 6 * j)) 1), .ref (bAd (bAd a sz (129 + 6 * j)) (sz + (129 + 6 * j)) 2), .ref (bAd (bAd a sz (129 + 6 * j)) (sz + (129 + 6 * j)) 3), .ref (bAd (bAd a sz (129 + 6 * j)) (sz + (129 + 6 * j)) 4), .ref (bAd (bAd a sz (129 + 6 * j)) (sz + (129 + 6 * j)) 5), .int (-1), .int 255, .int 0, .int (-1), .int (-1)]) from rfl]
          rw [bAd_add, bAd_add, bAd_add, bAd_add, bAd_add, show 129 + 6 * j + 1 = 130 + 6 * j by omega, show 129 + 6 * j + 2 = 131 + 6 * j by omega, show 129 + 6 * j + 3 = 132 + 6 * j by omega, show 129 + 6 * j + 4 = 133 + 6 * j by omega, show 129 + 6 * j + 5 = 134 + 6 * j by omega]
        · obtain ⟨j, t, hj, ht, rfl⟩ : ∃ j t, j < 6 ∧ t < 5 ∧ k = 130 + t + 6 * j := ⟨(k - 129) / 6, (k - 129) % 6 - 1, by omega, by omega, by omega⟩
          rw [xg_arr t ht hj, show 130 + t + 6 * j = 129 + 6 * j + (t + 1) by omega, cD_ply hj (by omega)]
          show _ = Sum.inl (ca 0, 64, Sum.inl (vI (20 + t) j))
          rcases (by omega : t = 0 ∨ t = 1 ∨ t = 2 ∨ t = 3 ∨ t = 4) with rfl | rfl | rfl | rfl | rfl
          · rw [vI_z (by omega)]; rfl
          · rw [vI_z (by omega)]; rfl
          · rw [vI_z (by omega)]; rfl
          · rw [vI_z (by omega)]; rfl
          · rw [show 20 + 4 = 24 from rfl, vI_24]; rfl
/-- the desk's world, out of the list of what its constructor made -/
theorem D_world {D : va_G} {cl : List vw_C} {ca : Nat → ClassId} {a sz : Nat} {H : Heap} (h : va_P D cl (uw 165 (bAd a sz) (bL (cL_D ca a sz))) H) : va_P D cl (uw 165 (fun k => bAd a sz (dP k)) (xG ca (fun k => bAd a sz (dP k)) (vI, id))) H := by
  intro k q hq
  obtain ⟨h1, rfl⟩ := uw_inv hq
  exact sameE_at (D_perm k h1) (h (dP k) _ (uw_get (dP_lt k h1)))
theorem D_apart {a sz : Nat} (h : a < sz) : uJ 165 (fun k => bAd a sz (dP k)) := by
  intro i j hi hj hij
  exact dP_inj i hi j hj (bJ (N := 165) h (dP i) (dP j) (dP_lt i hi) (dP_lt j hj) hij)
