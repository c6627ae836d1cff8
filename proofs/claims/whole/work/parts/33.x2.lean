/-! The class: the book's reads (printed by wip/gen/gen_x2.py) -/
set_option maxRecDepth 100000 in
set_option maxHeartbeats 4000000 in
theorem c_B_placeFor {l : Launch} {D : va_G} {ca : Nat → ClassId} {ad : Nat → Nat} (hJ : uJ 165 ad) (v : Nat → Nat → Nat → Int32) (π : Nat → Nat) (n : Nat) (hB : xBk v π n) (a b : Int32) : uMi l y_B_placeFor b_B_placeFor 4 (some .int) 1 22 D clsAll (tysAll ca) 165 ad (xG ca ad) (v, π) [.ref (ad 4), .int a, .int b] (fun r u => u = (v, π) ∧ r = nI (pFor v π n a b)) := by
  refine uStart (by decide) (Nat.le_of_ble_eq_true rfl) ?_
  intro p e s m below meth c ls S hr hlk hK hN hP hl
  have hU : ∀ w ∈ uWS, w ∈ (Cond.code y_B_placeFor b_B_placeFor 4 (some .int) :: uWS) := fun w h => List.mem_cons_of_mem _ h
  have hS : va_S (uA 165 ad s.heap.size) s.heap s.heap [] := va_S.rf
  have hl : lv_has ls 4 [(0, .ref (ad 4)), (1, .int a), (2, .int b)] := hl
  have hn40 : n ≤ 40 := hB.2.1
  refine lv_iconst (v := 0) S.1 S.2.1 d_B_placeFor_0 (by decide) ?_
  refine lv_istore_n (lv' := [(3, .int 0), (0, .ref (ad 4)), (1, .int a), (2, .int b)]) S.1 S.2.1 d_B_placeFor_1 rfl hl (by decide) rfl (fun ls hl => ?_)
  have L : ∀ i, i ≤ n → pGo v π a b (n - i) i = pFor v π n a b → ∀ (H : Heap) (locs : List Loc) (ls : Array Slot), va_P D clsAll (uw 165 ad (xG ca ad (v, π))) H → va_S (uA 165 ad s.heap.size) s.heap H locs → lv_has ls 4 [(3, .int (nI i)), (0, .ref (ad 4)), (1, .int a), (2, .int b)] → uGi 1 22 D clsAll 165 ad (xG ca ad) (fun r u => u = (v, π) ∧ r = nI (pFor v π n a b)) [.ref (ad 4), .int a, .int b] p l e s m below meth c H locs 2 ls [] := by
    refine upTo n ?_ ?_
    · intro hI H locs ls hP hS hl
      refine lv_iload_n S.1 S.2.1 d_B_placeFor_2 rfl (lv_at hl 0 rfl) ?_
      refine lv_aload_n S.1 S.2.1 d_B_placeFor_3 rfl (lv_at hl 1 rfl) ?_
      refine ur_get (k := 4) (v := .int (v 4 0 0)) S hK hP (by decide) xg_book rfl (fun w h => hU w (in_B w h)) 1 (by decide) (hU _ t1_107) rfl d_B_placeFor_4 ?_
      refine lv_icmp_ge (tgt := 30) S.1 S.2.1 d_B_placeFor_7 (by decide) (fun c_h => ?_) (fun c_h => ?_)
      · refine lv_iload_n S.1 S.2.1 d_B_placeFor_30 rfl (lv_at hl 0 rfl) ?_
        exact uIret S hr hlk (v, π) hP hS (by refine ⟨rfl, ?_⟩; rw [← hI, Nat.sub_self]; rfl) d_B_placeFor_31
      · exact absurd (by rw [hB.1]; exact nI_le (Nat.le_refl _) (by have := hB.2.1; omega)) c_h
    · intro i hi ih hI H locs ls hP hS hl
      refine lv_iload_n S.1 S.2.1 d_B_placeFor_2 rfl (lv_at hl 0 rfl) ?_
      refine lv_aload_n S.1 S.2.1 d_B_placeFor_3 rfl (lv_at hl 1 rfl) ?_
      refine ur_get (k := 4) (v := .int (v 4 0 0)) S hK hP (by decide) xg_book rfl (fun w h => hU w (in_B w h)) 1 (by decide) (hU _ t1_107) rfl d_B_placeFor_4 ?_
      refine lv_icmp_ge (tgt := 30) S.1 S.2.1 d_B_placeFor_7 (by decide) (fun c_h => ?_) (fun c_h => ?_)
      · exact absurd c_h (nI_litge hi (by have := hB.2.1; omega) hB.1)
      · refine lv_aload_n S.1 S.2.1 d_B_placeFor_10 rfl (lv_at hl 1 rfl) ?_
        refine ur_get (k := 4) (v := .ref (ad 5)) S hK hP (by decide) xg_book rfl (fun w h => hU w (in_B w h)) 0 (by decide) (hU _ t1_106) rfl d_B_placeFor_11 ?_
        refine lv_iload_n S.1 S.2.1 d_B_placeFor_14 rfl (lv_at hl 0 rfl) ?_
        refine ur_aald (k := 5) (q := ad (89 + π i)) (j := i) S hK hP (by decide) 2 xg_cues rfl rfl (by have := hB.2.1; omega) (by decide) rfl d_B_placeFor_15 ?_
        refine lv_iload_n S.1 S.2.1 d_B_placeFor_16 rfl (lv_at hl 2 rfl) ?_
        refine lv_iload_n S.1 S.2.1 d_B_placeFor_17 rfl (lv_at hl 3 rfl) ?_
        refine uVi (n := 2) (b := (89 + (π i))) (As := [.int a, .int b]) (rest := []) S hK hN hP hS (c_C_isBefore hJ v π (π i) (hB.2.2 _ (by omega)) a b) ⟨hU, t2_0, t1_237, t1_6, by decide +kernel, by decide, by decide⟩ t1_238 t1_239 (kb_C (hB.2.2 _ (by omega))) (xg_cue (hB.2.2 _ (by omega))) rfl rfl rfl hl.1 rfl (Nat.le_of_ble_eq_true rfl) d_B_placeFor_18 ⟨Nat.le_of_ble_eq_true rfl, Nat.le_of_ble_eq_true rfl⟩ (fun r u H locs hp hP hS => ?_)
        obtain ⟨rfl, rfl⟩ := hp
        refine lv_if_eq (tgt := 30) S.1 S.2.1 d_B_placeFor_21 (by decide) (fun c_b => ?_) (fun c_b => ?_)
        · have c_b := pI_no c_b
          refine lv_iload_n S.1 S.2.1 d_B_placeFor_30 rfl (lv_at hl 0 rfl) ?_
          exact uIret S hr hlk (v, π) hP hS (by refine ⟨rfl, ?_⟩; rw [← hI, show n - i = (n - (i + 1)) + 1 by omega, pGo, if_neg c_b]) d_B_placeFor_31
        · have c_b := pI_yes c_b
          refine lv_iinc (v := nI (i + 1)) (lv' := [(3, .int (nI (i + 1))), (0, .ref (ad 4)), (1, .int a), (2, .int b)]) S.1 S.2.1 d_B_placeFor_24 hl (k := 0) rfl (nI_1 i) (by decide) rfl (fun ls hl => ?_)
          refine lv_goto (tgt := 2) S.1 S.2.1 d_B_placeFor_27 (by decide) ?_
          exact ih (by rw [← hI, show n - i = (n - (i + 1)) + 1 by omega, pGo, if_pos c_b]) _ _ ls hP hS (lv_sub hl [0, 1, 2, 3] rfl)
  exact L 0 (Nat.zero_le _) rfl _ _ ls hP hS (lv_sub hl [0, 1, 2, 3] rfl)

set_option maxRecDepth 100000 in
set_option maxHeartbeats 4000000 in
theorem c_B_isIn {l : Launch} {D : va_G} {ca : Nat → ClassId} {ad : Nat → Nat} (hJ : uJ 165 ad) (v : Nat → Nat → Nat → Int32) (π : Nat → Nat) (n : Nat) (hB : xBk v π n) (q : Nat) (hq : q ≤ 40) (a : Int32) : uMi l y_B_isIn b_B_isIn 3 (some .boolean) 0 0 D clsAll (tysAll ca) 165 ad (xG ca ad) (v, π) [.ref (ad 4), .int (nI q), .int a] (fun r u => u = (v, π) ∧ r = pI (inB v π n a q)) := by
  refine uStart (by decide) (Nat.le_of_ble_eq_true rfl) ?_
  intro p e s m below meth c ls S hr hlk hK hN hP hl
  have hU : ∀ w ∈ uWS, w ∈ (Cond.code y_B_isIn b_B_isIn 3 (some .boolean) :: uWS) := fun w h => List.mem_cons_of_mem _ h
  have hS : va_S (uA 165 ad s.heap.size) s.heap s.heap [] := va_S.rf
  have hl : lv_has ls 3 [(0, .ref (ad 4)), (1, .int (nI q)), (2, .int a)] := hl
  have hn40 : n ≤ 40 := hB.2.1
  refine lv_iload_n S.1 S.2.1 d_B_isIn_0 rfl (lv_at hl 1 rfl) ?_
  refine lv_if_lt (tgt := 29) S.1 S.2.1 d_B_isIn_1 (by decide) (fun c_neg => ?_) (fun c_neg => ?_)
  · exact absurd c_neg (nI_pos (by omega))
  · refine lv_iload_n S.1 S.2.1 d_B_isIn_4 rfl (lv_at hl 1 rfl) ?_
    refine lv_aload_n S.1 S.2.1 d_B_isIn_5 rfl (lv_at hl 0 rfl) ?_
    refine ur_get (k := 4) (v := .int (v 4 0 0)) S hK hP (by decide) xg_book rfl (fun w h => hU w (in_B w h)) 1 (by decide) (hU _ t1_107) rfl d_B_isIn_6 ?_
    refine lv_icmp_ge (tgt := 29) S.1 S.2.1 d_B_isIn_9 (by decide) (fun c_s => ?_) (fun c_s => ?_)
    · have c_s : ¬ q < n := fun z => absurd c_s (nI_litge z (by have := hB.2.1; omega) hB.1)
      refine lv_iconst (v := 0) S.1 S.2.1 d_B_isIn_29 (by decide) ?_
      exact uZret S hr hlk rfl (v, π) hP hS (by refine ⟨rfl, ?_⟩; simp [pI, inB, c_s]) d_B_isIn_30
    · have c_s : q < n := Nat.not_le.mp (fun z => absurd (by rw [hB.1]; exact nI_le z (by omega)) c_s)
      refine lv_aload_n S.1 S.2.1 d_B_isIn_12 rfl (lv_at hl 0 rfl) ?_
      refine ur_get (k := 4) (v := .ref (ad 5)) S hK hP (by decide) xg_book rfl (fun w h => hU w (in_B w h)) 0 (by decide) (hU _ t1_106) rfl d_B_isIn_13 ?_
      refine lv_iload_n S.1 S.2.1 d_B_isIn_16 rfl (lv_at hl 1 rfl) ?_
      refine ur_aald (k := 5) (q := ad (89 + π q)) (j := q) S hK hP (by decide) 2 xg_cues rfl rfl (by have := hB.2.1; omega) (by decide) rfl d_B_isIn_17 ?_
      refine ur_getN (k := (89 + (π q))) (v := .int (v 10 (π q) 0)) S hK hP (kb_C (hB.2.2 q (by have := hB.2.1; omega))) (xg_cue (hB.2.2 q (by have := hB.2.1; omega))) rfl (fun w h => hU w (in_C w h)) 1 (by decide) (hN _ t1_76) rfl d_B_isIn_18 ?_
      refine lv_iload_n S.1 S.2.1 d_B_isIn_21 rfl (lv_at hl 2 rfl) ?_
      refine lv_icmp_ne (tgt := 29) S.1 S.2.1 d_B_isIn_22 (by decide) (fun c_1 => ?_) (fun c_1 => ?_)
      · refine lv_iconst (v := 0) S.1 S.2.1 d_B_isIn_29 (by decide) ?_
        exact uZret S hr hlk rfl (v, π) hP hS (by refine ⟨rfl, ?_⟩; simp [pI, inB, c_s, c_1]) d_B_isIn_30
      · refine lv_iconst (v := 1) S.1 S.2.1 d_B_isIn_25 (by decide) ?_
        refine lv_goto (tgt := 30) S.1 S.2.1 d_B_isIn_26 (by decide) ?_
        exact uZret S hr hlk rfl (v, π) hP hS (by refine ⟨rfl, ?_⟩; simp [pI, inB, c_s, c_1]) d_B_isIn_30
