/-! The class: the book's reads (printed by wip/gen/gen_x2.py) -/
set_option maxRecDepth 100000 in
set_option maxHeartbeats 4000000 in
theorem c_B_placeFor {l : Launch} {D : va_G} {ca : Nat → ClassId} {ad : Nat → Nat} (hJ : uJ 165 ad) (v : Nat → Nat → Nat → Int32) (π : Nat → Nat) (n : Nat) (hB : xBk v π n) (a b : Int32) : uMi l y_B_placeFor b_B_placeFor 4 (some .int) 1 22 D clsAll (tysAll ca) 165 ad (xG ca ad) (v, π) [.ref (ad 4), .int a, .int b] (fun r u => u = (v, π) ∧ r = nI (pFor v π n a b)) := by
  refine uStart (by decide) (Nat.le_of_ble_eq_true rfl) ?_
  intro p e s m below meth c ls S hr hlk hK hN hP hl
  have hU : ∀ w ∈ uWS, w ∈ (Cond.code y_B_placeFor b_B_placeFor 4 (some .int) :: uWS) := fun w h => List.mem_cons_of_mem _ h
  have hS : va_S (uA 165 ad s.heap.size) s.heap s.heap [] := va_S.rf
  have hl : lv_has ls 4 [(0, .ref (ad 4)), (1, .int a), (2, .int b)] := hl
  have hn40 : n ≤ 40 := hB.2.1
  refine lv_iconst (v := 0) S.1 S.2.1 d_B_placeFor_0 (by decide) ?_
  refine lv_istore_n (lv' := [(3, .int 0), (0, .ref (ad 4)), (1, .int a), (2, .int b)]) S.1 S.2.1 d_B_placeFor_1 rfl hl (by decide) rfl (fun ls hl => ?_)
  have L : ∀ i, i ≤ n → pGo v π a b (n - i) i = pFor v π n a b → ∀ (H : Heap) (locs : List Loc) (ls : Array Slot), va_P D clsAll (uw 165 ad (xG ca ad (v, π))) H → va_S (uA 165 ad s.heap.size) s.heap H locs → lv_has ls 4 [(3, .int (nI i)), (0, .ref (ad 4)), (1, .int a), (2, .int b)] → uGi 1 22 D clsAll 165 ad (xG ca ad) (fun r u => u = (v, π) ∧ r = nI (pFor v π n a b)) [.ref (ad 4), .int a, .int b] p l e s m below meth c H locs 2 ls [] := by
    refine upTo n ?_ ?_
    · intro hI H locs ls hP hS hl
      refine lv_iload_n S.1 S.2.1 d_B_placeFor_2 rfl (lv_at hl 0 rfl) ?_
      refine lv_aload_n S.1 S.2.1 d_B_placeFor_3 rfl (lv_at hl 1 rfl) ?_
      refine ur_get (k := 4) (v := .int (v 4 0 0)) S hK hP (by decide) xg_book rfl (fun w h => hU w (in_B w h)) 1 (by decide) (hU _ t1_107) rfl d_B_placeFor_4 ?_
      refine lv_icmp_ge (tgt := 30) S.1 S.2.1 d_B_placeFor_7 (by decide) (fun c_h => ?_) (fun c_h => ?_)
      · refine lv_iload_n S.1 S.2.1 d_B_placeFor_30 rfl (lv_at hl 0 rfl) ?_
        exact uIret S hr hlk (v, π) hP hS (by refine ⟨rfl, ?_⟩; rw [← hI, Nat.sub_self]; rfl) d_B_placeFor_31
      · exact absurd (by rw [hB.1]; exact nI_le (Nat.le_refl _) (by have := hB.2.1; omega)) c_h
    · intro i hi ih hI H locs ls hP hS hl
      refine lv_iload_n S.1 S.2.1 d_B_placeFor_2 rfl (lv_at hl 0 rfl) ?_
      refine lv_aload_n S.1 S.2.1 d_B_placeFor_3 rfl (lv_at hl 1 rfl) ?_
      refine ur_get (k := 4) (v := .int (v 4 0 0)) S hK hP (by decide) xg_book rfl (fun w h => hU w (in_B w h)) 1 (by decide) (hU _ t1_107) rfl d_B_placeFor_4 ?_
      refine lv_icmp_ge (tgt := 30) S.1 S.2.1 d_B_placeFor_7 (by decide) (fun c_h => ?_) (fun c_h => ?_)
      · exact absurd c_h (nI_litge hi (by have := hB.2.1; omega) hB.1)
      · refine lv_aload_n S.1 S.2.1 d_B_placeFor_10 rfl (lv_at hl 1 rfl) ?_
        refine ur_get (k := 4) (v := .ref (ad 5)) S hK hP (by decide) xg_book rfl (fun w h => hU w (in_B w h)) 0 (by decide) (hU _ t1_106) rfl d_B_placeFor_11 ?_
        refine lv_iload_n S.1 S.2.1 d_B_placeFor_14 rfl (lv_at hl 0 rfl) ?_
        refine ur_aald (k := 5) (q := ad (89 + π i)) (j := i) S hK hP (by decide) 2 xg_cues rfl rfl (by have := hB.2.1; omega) (by decide) rfl d_B_placeFor_15 ?_
        refine lv_iload_n S.1 S.2.1 d_B_placeFor_16 rfl (lv_at hl 2 rfl) ?_
        refine lv_iload_n S.1 S.2.1 d_B_placeFor_17 rfl (lv_at hl 3 rfl) ?_
        refine uVi (n := 2) (b := (89 + (π i))) (As := [.int a, .int b]) (rest := []) S hK hN hP hS (c_C_isBefore hJ v π (π i) (hB.2.2 _ (by omega)) a b) ⟨hU, t2_0, t1_237, t1_6, by decide +kernel, by decide, by decide⟩ t1_238 t1_239 (kb_C (hB.2.2 _ (by omega))) (xg_cue (hB.2.2 _ (by omega))) rfl rfl rfl hl.1 rfl (Nat.le_of_ble_eq_true rfl) d_B_placeFor_18 ⟨Nat.le_of_ble_eq_true rfl, Nat.le_of_ble_eq_true rfl⟩ (fun r u H locs hp hP hS => ?_)
        obtain ⟨rfl, rfl⟩ := hp
        refine lv_if_eq (tgt := 30) S.1 S.2.1 d_B_placeFor_21 (by decide) (fun c_b => ?_) (fun c_b => ?_)
        · have c_b := pI_no c_b
          refine lv_iload_n S.1 S.2.1 d_B_placeFor_30 rfl (lv_at hl 0 rfl) ?_
          exact uIret S hr hlk (v, π) hP hS (by refine ⟨rfl, ?_⟩; rw [← hI, show n - i = (n - (i + 1)) + 1 by omega, pGo, if_neg c_b]) d_B_placeFor_31
        · have c_b := pI_yes c_b
          refine lv_iinc (v := nI (i + 1)) (lv' := [(3, .int (nI (i + 1))), (0, .ref (ad 4)), (1, .int a), (2, .int b)]) S.1 S.2.1 d_B_placeFor_24 hl (k := 0) rfl (nI_1 i) (by decide) rfl (fun ls hl => ?_)
          refine lv_goto (tgt := 2) S.1 S.2.1 d_B_placeFor_27 (by decide) ?_
          exact ih (by rw [← hI, show n - i = (n - (i + 1)) + 1 by omega, pGo, if_pos c_b]) _ _ ls hP hS (lv_sub hl [0, 1, 2, 3] rfl)
  exact L 0 (Nat.zero_le _) rfl _ _ ls hP hS (lv_sub hl [0, 1, 2, 3] rfl)

set_option maxRecDepth 100000 in
set_option maxHeartbeats 4000000 in
theorem c_B_isIn {l : Launch} {D : va_G} {ca : Nat → ClassId} {ad : Nat → Nat} (hJ : uJ 165 ad) (v : Nat → Nat → Nat → Int32) (π : Nat → Nat) (n : Nat) (hB : xBk v π n) (q : Nat) (hq : q ≤ 40) (a : Int32) : uMi l y_B_isIn b_B_isIn 3 (some .boolean) 0 0 D clsAll (tysAll ca) 165 ad (xG ca ad) (v, π) [.ref (ad 4), .int (nI q), .int a] (fun r u => u = (v, π) ∧ r = pI (inB v π n a q)) := by
  refine uStart (by decide) (Nat.le_of_ble_eq_true rfl) ?_
  intro p e s m below meth c ls S hr hlk hK hN hP hl
  have hU : ∀ w ∈ uWS, w ∈ (Cond.code y_B_isIn b_B_isIn 3 (some .boolean) :: uWS) := fun w h => List.mem_cons_of_mem _ h
  have hS : va_S (uA 165 ad s.heap.size) s.heap s.heap [] := va_S.rf
  have hl : lv_has ls 3 [(0, .ref (ad 4)), (1, .int (nI q)), (2, .int a)] := hl
  have hn40 : n ≤ 40 := hB.2.1
  refine lv_iload_n S.1 S.2.1 d_B_isIn_0 rfl (lv_at hl 1 rfl) ?_
  refine lv_if_lt (tgt := 29) S.1 S.2.1 d_B_isIn_1 (by decide) (fun c_neg => ?_) (fun c_neg => ?_)
  · exact absurd c_neg (nI_pos (by omega))
  · refine lv_iload_n S.1 S.2.1 d_B_isIn_4 rfl (lv_at hl 1 rfl) ?_
    refine lv_aload_n S.1 S.2.1 d_B_isIn_5 rfl (lv_at hl 0 rfl) ?_
    refine ur_get (k := 4) (v := .int (v 4 0 0)) S hK hP (by decide) xg_book rfl (fun w h => hU w (in_B w h)) 1 (by decide) (hU _ t1_107) rfl d_B_isIn_6 ?_
    refine lv_icmp_ge (tgt := 29) S.1 S.2.1 d_B_isIn_9 (by decide) (fun c_s => ?_) (fun c_s => ?_)
    · have c_s : ¬ q < n := fun z => absurd c_s (nI_litge z (by have := hB.2.1; omega) hB.1)
      refine lv_iconst (v := 0) S.1 S.2.1 d_B_isIn_29 (by decide) ?_
      exact uZret S hr hlk rfl (v, π) hP hS (by refine ⟨rfl, ?_⟩; simp [pI, inB, c_s]) d_B_isIn_30
    · have c_s : q < n := Nat.not_le.mp (fun z => absurd (by rw [hB.1]; exact nI_le z (by omega)) c_s)
      refine lv_aload_n S.1 S.2.1 d_B_isIn_12 rfl (lv_at hl 0 rfl) ?_
      refine ur_get (k := 4) (v := .ref (ad 5)) S hK hP (by decide) xg_book rfl (fun w h => hU w (in_B w h)) 0 (by decide) (hU _ t1_106) rfl d_B_isIn_13 ?_
      refine lv_iload_n S.1 S.2.1 d_B_isIn_16 rfl (lv_at hl 1 rfl) ?_
      refine ur_aald (k := 5) (q := ad (89 + π q)) (j := q) S hK hP (by decide) 2 xg_cues rfl rfl (by have := hB.2.1; omega) (by decide) rfl d_B_isIn_17 ?_
      refine ur_getN (k := (89 + (π q))) (v := .int (v 10 (π q) 0)) S hK hP (kb_C (hB.2.2 q (by have := hB.2.1; omega))) (xg_cue (hB.2.2 q (by have := hB.2.1; omega))) rfl (fun w h => hU w (in_C w h)) 1 (by decide) (hN _ t1_76) rfl d_B_isIn_18 ?_
      refine lv_iload_n S.1 S.2.1 d_B_isIn_21 rfl (lv_at hl 2 rfl) ?_
      refine lv_icmp_ne (tgt := 29) S.1 S.2.1 d_B_isIn_22 (by decide) (fun c_1 => ?_) (fun c_1 => ?_)
      · refine lv_iconst (v := 0) S.1 S.2.1 d_B_isIn_29 (by decide) ?_
        exact uZret S hr hlk rfl (v, π) hP hS (by refine ⟨rfl, ?_⟩; simp [pI, inB, c_s, c_1]) d_B_isIn_30
      · refine lv_iconst (v := 1) S.1 S.2.1 d_B_isIn_25 (by decide) ?_
        refine lv_goto (tgt := 30) S.1 S.2.1 d_B_isIn_26 (by decide) ?_
        exact uZret S hr hlk rfl (v, π) hP hS (by refine ⟨rfl, ?_⟩; simp [pI, inB, c_s, c_1]) d_B_isIn_30

set_option maxRecDepth 100000 in
set_option maxHeartbeats 4000000 in
theorem c_B_find {l : Launch} {D : va_G} {ca : Nat → ClassId} {ad : Nat → Nat} (hJ : uJ 165 ad) (v : Nat → Nat → Nat → Int32) (π : Nat → Nat) (n : Nat) (hB : xBk v π n) (a b : Int32) : uMi l y_B_find b_B_find 4 (some .int) 2 45 D clsAll (tysAll ca) 165 ad (xG ca ad) (v, π) [.ref (ad 4), .int a, .int b] (fun r u => u = (v, π) ∧ r = oI (fndO v π n a b)) := by
  refine uStart (by decide) (Nat.le_of_ble_eq_true rfl) ?_
  intro p e s m below meth c ls S hr hlk hK hN hP hl
  have hU : ∀ w ∈ uWS, w ∈ (Cond.code y_B_find b_B_find 4 (some .int) :: uWS) := fun w h => List.mem_cons_of_mem _ h
  have hS : va_S (uA 165 ad s.heap.size) s.heap s.heap [] := va_S.rf
  have hl : lv_has ls 4 [(0, .ref (ad 4)), (1, .int a), (2, .int b)] := hl
  have hn40 : n ≤ 40 := hB.2.1
  refine lv_aload_n S.1 S.2.1 d_B_find_0 rfl (lv_at hl 0 rfl) ?_
  refine lv_iload_n S.1 S.2.1 d_B_find_1 rfl (lv_at hl 1 rfl) ?_
  refine lv_iload_n S.1 S.2.1 d_B_find_2 rfl (lv_at hl 2 rfl) ?_
  refine uVi (n := 2) (b := 4) (As := [.int a, .int b]) (rest := []) S hK hN hP hS (c_B_placeFor hJ v π n hB a b) ⟨hU, t1_236, t1_233, t1_5, by decide +kernel, by decide, by decide⟩ t1_235 tp_0 (by decide) xg_book rfl rfl rfl hl.1 rfl (Nat.le_of_ble_eq_true rfl) d_B_find_3 ⟨Nat.le_of_ble_eq_true rfl, Nat.le_of_ble_eq_true rfl⟩ (fun r u H locs hp hP hS => ?_)
  obtain ⟨rfl, rfl⟩ := hp
  refine lv_istore_n (lv' := [(3, .int (nI (pFor v π n a b))), (0, .ref (ad 4)), (1, .int a), (2, .int b)]) S.1 S.2.1 d_B_find_6 rfl hl (by decide) rfl (fun ls hl => ?_)
  refine lv_aload_n S.1 S.2.1 d_B_find_7 rfl (lv_at hl 1 rfl) ?_
  refine lv_iload_n S.1 S.2.1 d_B_find_8 rfl (lv_at hl 0 rfl) ?_
  refine lv_iload_n S.1 S.2.1 d_B_find_9 rfl (lv_at hl 2 rfl) ?_
  refine uVi (n := 2) (b := 4) (As := [.int (nI (pFor v π n a b)), .int a]) (rest := []) S hK hN hP hS (c_B_isIn hJ v π n hB (pFor v π n a b) (by have := pFor_le v π n a b; omega) a) ⟨hU, t2_4, t2_1, t1_5, by decide +kernel, by decide, by decide⟩ t2_3 tp_1 (by decide) xg_book rfl rfl rfl hl.1 rfl (Nat.le_of_ble_eq_true rfl) d_B_find_10 ⟨Nat.le_of_ble_eq_true rfl, Nat.le_of_ble_eq_true rfl⟩ (fun r u H locs hp hP hS => ?_)
  obtain ⟨rfl, rfl⟩ := hp
  refine lv_if_eq (tgt := 33) S.1 S.2.1 d_B_find_13 (by decide) (fun c_i => ?_) (fun c_i => ?_)
  · have c_i := pI_no c_i
    refine lv_iconst (v := (-1)) S.1 S.2.1 d_B_find_33 (by decide) ?_
    exact uIret S hr hlk (v, π) hP hS (by refine ⟨rfl, ?_⟩; rw [fndO, if_neg (fun z => c_i z.1)]; rfl) d_B_find_34
  · have c_i := pI_yes c_i
    have hpn : pFor v π n a b < n := c_i.1
    refine lv_aload_n S.1 S.2.1 d_B_find_16 rfl (lv_at hl 1 rfl) ?_
    refine ur_get (k := 4) (v := .ref (ad 5)) S hK hP (by decide) xg_book rfl (fun w h => hU w (in_B w h)) 0 (by decide) (hU _ t1_106) rfl d_B_find_17 ?_
    refine lv_iload_n S.1 S.2.1 d_B_find_20 rfl (lv_at hl 0 rfl) ?_
    refine ur_aald (k := 5) (q := ad (89 + π (pFor v π n a b))) (j := (pFor v π n a b)) S hK hP (by decide) 2 xg_cues rfl rfl (by omega) (by decide) rfl d_B_find_21 ?_
    refine ur_getN (k := (89 + (π (pFor v π n a b)))) (v := .int (v 11 (π (pFor v π n a b)) 0)) S hK hP (kb_C (hB.2.2 _ (by omega))) (xg_cue (hB.2.2 _ (by omega))) rfl (fun w h => hU w (in_C w h)) 2 (by decide) (hN _ t1_78) rfl d_B_find_22 ?_
    refine lv_iload_n S.1 S.2.1 d_B_find_25 rfl (lv_at hl 3 rfl) ?_
    refine lv_icmp_ne (tgt := 33) S.1 S.2.1 d_B_find_26 (by decide) (fun c_1 => ?_) (fun c_1 => ?_)
    · refine lv_iconst (v := (-1)) S.1 S.2.1 d_B_find_33 (by decide) ?_
      exact uIret S hr hlk (v, π) hP hS (by refine ⟨rfl, ?_⟩; rw [fndO, if_neg (fun z => c_1 z.2)]; rfl) d_B_find_34
    · refine lv_iload_n S.1 S.2.1 d_B_find_29 rfl (lv_at hl 0 rfl) ?_
      refine lv_goto (tgt := 34) S.1 S.2.1 d_B_find_30 (by decide) ?_
      exact uIret S hr hlk (v, π) hP hS (by refine ⟨rfl, ?_⟩; rw [fndO, if_pos ⟨c_i, c_1⟩]; rfl) d_B_find_34

set_option maxRecDepth 100000 in
set_option maxHeartbeats 4000000 in
theorem c_B_placeAbove {l : Launch} {D : va_G} {ca : Nat → ClassId} {ad : Nat → Nat} (hJ : uJ 165 ad) (v : Nat → Nat → Nat → Int32) (π : Nat → Nat) (n : Nat) (hB : xBk v π n) (a b : Int32) : uMi l y_B_placeAbove b_B_placeAbove 4 (some .int) 2 45 D clsAll (tysAll ca) 165 ad (xG ca ad) (v, π) [.ref (ad 4), .int a, .int b] (fun r u => u = (v, π) ∧ r = oI (abvO v π n a b)) := by
  refine uStart (by decide) (Nat.le_of_ble_eq_true rfl) ?_
  intro p e s m below meth c ls S hr hlk hK hN hP hl
  have hU : ∀ w ∈ uWS, w ∈ (Cond.code y_B_placeAbove b_B_placeAbove 4 (some .int) :: uWS) := fun w h => List.mem_cons_of_mem _ h
  have hS : va_S (uA 165 ad s.heap.size) s.heap s.heap [] := va_S.rf
  have hl : lv_has ls 4 [(0, .ref (ad 4)), (1, .int a), (2, .int b)] := hl
  have hn40 : n ≤ 40 := hB.2.1
  refine lv_aload_n S.1 S.2.1 d_B_placeAbove_0 rfl (lv_at hl 0 rfl) ?_
  refine lv_iload_n S.1 S.2.1 d_B_placeAbove_1 rfl (lv_at hl 1 rfl) ?_
  refine lv_iload_n S.1 S.2.1 d_B_placeAbove_2 rfl (lv_at hl 2 rfl) ?_
  refine lv_iconst (v := 1) S.1 S.2.1 d_B_placeAbove_3 (by decide) ?_
  refine lv_iadd S.1 S.2.1 d_B_placeAbove_4 ?_
  refine uVi (n := 2) (b := 4) (As := [.int a, .int (b + 1)]) (rest := []) S hK hN hP hS (c_B_placeFor hJ v π n hB a (b + 1)) ⟨hU, t1_236, t1_233, t1_5, by decide +kernel, by decide, by decide⟩ t1_235 tp_0 (by decide) xg_book rfl rfl rfl hl.1 rfl (Nat.le_of_ble_eq_true rfl) d_B_placeAbove_5 ⟨Nat.le_of_ble_eq_true rfl, Nat.le_of_ble_eq_true rfl⟩ (fun r u H locs hp hP hS => ?_)
  obtain ⟨rfl, rfl⟩ := hp
  refine lv_istore_n (lv' := [(3, .int (nI (pFor v π n a (b + 1)))), (0, .ref (ad 4)), (1, .int a), (2, .int b)]) S.1 S.2.1 d_B_placeAbove_8 rfl hl (by decide) rfl (fun ls hl => ?_)
  refine lv_aload_n S.1 S.2.1 d_B_placeAbove_9 rfl (lv_at hl 1 rfl) ?_
  refine lv_iload_n S.1 S.2.1 d_B_placeAbove_10 rfl (lv_at hl 0 rfl) ?_
  refine lv_iload_n S.1 S.2.1 d_B_placeAbove_11 rfl (lv_at hl 2 rfl) ?_
  refine uVi (n := 2) (b := 4) (As := [.int (nI (pFor v π n a (b + 1))), .int a]) (rest := []) S hK hN hP hS (c_B_isIn hJ v π n hB (pFor v π n a (b + 1)) (by have := pFor_le v π n a (b + 1); omega) a) ⟨hU, t2_4, t2_1, t1_5, by decide +kernel, by decide, by decide⟩ t2_3 tp_1 (by decide) xg_book rfl rfl rfl hl.1 rfl (Nat.le_of_ble_eq_true rfl) d_B_placeAbove_12 ⟨Nat.le_of_ble_eq_true rfl, Nat.le_of_ble_eq_true rfl⟩ (fun r u H locs hp hP hS => ?_)
  obtain ⟨rfl, rfl⟩ := hp
  refine lv_if_eq (tgt := 22) S.1 S.2.1 d_B_placeAbove_15 (by decide) (fun c_i => ?_) (fun c_i => ?_)
  · have c_i := pI_no c_i
    refine lv_iconst (v := (-1)) S.1 S.2.1 d_B_placeAbove_22 (by decide) ?_
    exact uIret S hr hlk (v, π) hP hS (by refine ⟨rfl, ?_⟩; rw [abvO, if_neg c_i]; rfl) d_B_placeAbove_23
  · have c_i := pI_yes c_i
    refine lv_iload_n S.1 S.2.1 d_B_placeAbove_18 rfl (lv_at hl 0 rfl) ?_
    refine lv_goto (tgt := 23) S.1 S.2.1 d_B_placeAbove_19 (by decide) ?_
    exact uIret S hr hlk (v, π) hP hS (by refine ⟨rfl, ?_⟩; rw [abvO, if_pos c_i]; rfl) d_B_placeAbove_23

set_option maxRecDepth 100000 in
set_option maxHeartbeats 4000000 in
theorem c_B_isInN {l : Launch} {D : va_G} {ca : Nat → ClassId} {ad : Nat → Nat} (hJ : uJ 165 ad) (v : Nat → Nat → Nat → Int32) (π : Nat → Nat) (n : Nat) (hB : xBk v π n) (a : Int32) : uMi l y_B_isIn b_B_isIn 3 (some .boolean) 0 0 D clsAll (tysAll ca) 165 ad (xG ca ad) (v, π) [.ref (ad 4), .int (-1), .int a] (fun r u => u = (v, π) ∧ r = pI False) := by
  refine uStart (by decide) (Nat.le_of_ble_eq_true rfl) ?_
  intro p e s m below meth c ls S hr hlk hK hN hP hl
  have hU : ∀ w ∈ uWS, w ∈ (Cond.code y_B_isIn b_B_isIn 3 (some .boolean) :: uWS) := fun w h => List.mem_cons_of_mem _ h
  have hS : va_S (uA 165 ad s.heap.size) s.heap s.heap [] := va_S.rf
  have hl : lv_has ls 3 [(0, .ref (ad 4)), (1, .int (-1)), (2, .int a)] := hl
  have hn40 : n ≤ 40 := hB.2.1
  refine lv_iload_n S.1 S.2.1 d_B_isIn_0 rfl (lv_at hl 1 rfl) ?_
  refine lv_if_lt (tgt := 29) S.1 S.2.1 d_B_isIn_1 (by decide) (fun c_neg => ?_) (fun c_neg => ?_)
  · refine lv_iconst (v := 0) S.1 S.2.1 d_B_isIn_29 (by decide) ?_
    exact uZret S hr hlk rfl (v, π) hP hS (⟨rfl, rfl⟩) d_B_isIn_30
  · exact absurd (by decide) c_neg

set_option maxRecDepth 100000 in
set_option maxHeartbeats 4000000 in
theorem c_B_placeBelow {l : Launch} {D : va_G} {ca : Nat → ClassId} {ad : Nat → Nat} (hJ : uJ 165 ad) (v : Nat → Nat → Nat → Int32) (π : Nat → Nat) (n : Nat) (hB : xBk v π n) (a b : Int32) : uMi l y_B_placeBelow b_B_placeBelow 4 (some .int) 2 45 D clsAll (tysAll ca) 165 ad (xG ca ad) (v, π) [.ref (ad 4), .int a, .int b] (fun r u => u = (v, π) ∧ r = oI (blwO v π n a b)) := by
  refine uStart (by decide) (Nat.le_of_ble_eq_true rfl) ?_
  intro p e s m below meth c ls S hr hlk hK hN hP hl
  have hU : ∀ w ∈ uWS, w ∈ (Cond.code y_B_placeBelow b_B_placeBelow 4 (some .int) :: uWS) := fun w h => List.mem_cons_of_mem _ h
  have hS : va_S (uA 165 ad s.heap.size) s.heap s.heap [] := va_S.rf
  have hl : lv_has ls 4 [(0, .ref (ad 4)), (1, .int a), (2, .int b)] := hl
  have hn40 : n ≤ 40 := hB.2.1
  refine lv_aload_n S.1 S.2.1 d_B_placeBelow_0 rfl (lv_at hl 0 rfl) ?_
  refine lv_iload_n S.1 S.2.1 d_B_placeBelow_1 rfl (lv_at hl 1 rfl) ?_
  refine lv_iload_n S.1 S.2.1 d_B_placeBelow_2 rfl (lv_at hl 2 rfl) ?_
  refine uVi (n := 2) (b := 4) (As := [.int a, .int b]) (rest := []) S hK hN hP hS (c_B_placeFor hJ v π n hB a b) ⟨hU, t1_236, t1_233, t1_5, by decide +kernel, by decide, by decide⟩ t1_235 tp_0 (by decide) xg_book rfl rfl rfl hl.1 rfl (Nat.le_of_ble_eq_true rfl) d_B_placeBelow_3 ⟨Nat.le_of_ble_eq_true rfl, Nat.le_of_ble_eq_true rfl⟩ (fun r u H locs hp hP hS => ?_)
  obtain ⟨rfl, rfl⟩ := hp
  refine lv_iconst (v := 1) S.1 S.2.1 d_B_placeBelow_6 (by decide) ?_
  refine lv_isub S.1 S.2.1 d_B_placeBelow_7 ?_
  have hle := pFor_le v π n a b
  rcases hp0 : pFor v π n a b with _ | q
  · rw [show nI 0 - 1 = -1 from by decide]
    refine lv_istore_n (lv' := [(3, .int (-1)), (0, .ref (ad 4)), (1, .int a), (2, .int b)]) S.1 S.2.1 d_B_placeBelow_8 rfl hl (by decide) rfl (fun ls hl => ?_)
    refine lv_aload_n S.1 S.2.1 d_B_placeBelow_9 rfl (lv_at hl 1 rfl) ?_
    refine lv_iload_n S.1 S.2.1 d_B_placeBelow_10 rfl (lv_at hl 0 rfl) ?_
    refine lv_iload_n S.1 S.2.1 d_B_placeBelow_11 rfl (lv_at hl 2 rfl) ?_
    refine uVi (n := 2) (b := 4) (As := [.int (-1), .int a]) (rest := []) S hK hN hP hS (c_B_isInN hJ v π n hB a) ⟨hU, t2_4, t2_1, t1_5, by decide +kernel, by decide, by decide⟩ t2_3 tp_1 (by decide) xg_book rfl rfl rfl hl.1 rfl (Nat.le_of_ble_eq_true rfl) d_B_placeBelow_12 ⟨Nat.le_of_ble_eq_true rfl, Nat.le_of_ble_eq_true rfl⟩ (fun r u H locs hp hP hS => ?_)
    obtain ⟨rfl, rfl⟩ := hp
    refine lv_if_eq (tgt := 22) S.1 S.2.1 d_B_placeBelow_15 (by decide) (fun c_i => ?_) (fun c_i => ?_)
    · have c_i := pI_no c_i
      refine lv_iconst (v := (-1)) S.1 S.2.1 d_B_placeBelow_22 (by decide) ?_
      exact uIret S hr hlk (v, π) hP hS (by refine ⟨rfl, ?_⟩; simp only [blwO, hp0]; first | rfl | (rw [if_neg c_i]; rfl)) d_B_placeBelow_23
    · have c_i := pI_yes c_i
      refine lv_iload_n S.1 S.2.1 d_B_placeBelow_18 rfl (lv_at hl 0 rfl) ?_
      refine lv_goto (tgt := 23) S.1 S.2.1 d_B_placeBelow_19 (by decide) ?_
      exact uIret S hr hlk (v, π) hP hS (by refine ⟨rfl, ?_⟩; simp only [blwO, hp0]; first | rfl | (rw [if_neg c_i]; rfl)) d_B_placeBelow_23
  · rw [nI_pred]
    rw [hp0] at hle
    refine lv_istore_n (lv' := [(3, .int (nI q)), (0, .ref (ad 4)), (1, .int a), (2, .int b)]) S.1 S.2.1 d_B_placeBelow_8 rfl hl (by decide) rfl (fun ls hl => ?_)
    refine lv_aload_n S.1 S.2.1 d_B_placeBelow_9 rfl (lv_at hl 1 rfl) ?_
    refine lv_iload_n S.1 S.2.1 d_B_placeBelow_10 rfl (lv_at hl 0 rfl) ?_
    refine lv_iload_n S.1 S.2.1 d_B_placeBelow_11 rfl (lv_at hl 2 rfl) ?_
    refine uVi (n := 2) (b := 4) (As := [.int (nI q), .int a]) (rest := []) S hK hN hP hS (c_B_isIn hJ v π n hB q (by omega) a) ⟨hU, t2_4, t2_1, t1_5, by decide +kernel, by decide, by decide⟩ t2_3 tp_1 (by decide) xg_book rfl rfl rfl hl.1 rfl (Nat.le_of_ble_eq_true rfl) d_B_placeBelow_12 ⟨Nat.le_of_ble_eq_true rfl, Nat.le_of_ble_eq_true rfl⟩ (fun r u H locs hp hP hS => ?_)
    obtain ⟨rfl, rfl⟩ := hp
    refine lv_if_eq (tgt := 22) S.1 S.2.1 d_B_placeBelow_15 (by decide) (fun c_i => ?_) (fun c_i => ?_)
    · have c_i := pI_no c_i
      refine lv_iconst (v := (-1)) S.1 S.2.1 d_B_placeBelow_22 (by decide) ?_
      exact uIret S hr hlk (v, π) hP hS (by refine ⟨rfl, ?_⟩; simp only [blwO, hp0]; first | rfl | (rw [if_neg c_i]; rfl)) d_B_placeBelow_23
    · have c_i := pI_yes c_i
      refine lv_iload_n S.1 S.2.1 d_B_placeBelow_18 rfl (lv_at hl 0 rfl) ?_
      refine lv_goto (tgt := 23) S.1 S.2.1 d_B_placeBelow_19 (by decide) ?_
      exact uIret S hr hlk (v, π) hP hS (by refine ⟨rfl, ?_⟩; simp only [blwO, hp0]; first | rw [if_pos c_i]; rfl | exact c_i.elim) d_B_placeBelow_23

set_option maxRecDepth 100000 in
set_option maxHeartbeats 4000000 in
theorem c_B_firstOf {l : Launch} {D : va_G} {ca : Nat → ClassId} {ad : Nat → Nat} (hJ : uJ 165 ad) (v : Nat → Nat → Nat → Int32) (π : Nat → Nat) (n : Nat) (hB : xBk v π n) (a : Int32) : uMi l y_B_firstOf b_B_firstOf 2 (some .int) 2 45 D clsAll (tysAll ca) 165 ad (xG ca ad) (v, π) [.ref (ad 4), .int a] (fun r u => u = (v, π) ∧ r = nI (pFor v π n a 0)) := by
  refine uStart (by decide) (Nat.le_of_ble_eq_true rfl) ?_
  intro p e s m below meth c ls S hr hlk hK hN hP hl
  have hU : ∀ w ∈ uWS, w ∈ (Cond.code y_B_firstOf b_B_firstOf 2 (some .int) :: uWS) := fun w h => List.mem_cons_of_mem _ h
  have hS : va_S (uA 165 ad s.heap.size) s.heap s.heap [] := va_S.rf
  have hl : lv_has ls 2 [(0, .ref (ad 4)), (1, .int a)] := hl
  refine lv_aload_n S.1 S.2.1 d_B_firstOf_0 rfl (lv_at hl 0 rfl) ?_
  refine lv_iload_n S.1 S.2.1 d_B_firstOf_1 rfl (lv_at hl 1 rfl) ?_
  refine lv_iconst (v := 0) S.1 S.2.1 d_B_firstOf_2 (by decide) ?_
  refine uVi (n := 2) (b := 4) (As := [.int a, .int 0]) (rest := []) S hK hN hP hS (c_B_placeFor hJ v π n hB a 0) ⟨hU, t1_236, t1_233, t1_5, by decide +kernel, by decide, by decide⟩ t1_235 tp_0 (by decide) xg_book rfl rfl rfl hl.1 rfl (Nat.le_of_ble_eq_true rfl) d_B_firstOf_3 ⟨Nat.le_of_ble_eq_true rfl, Nat.le_of_ble_eq_true rfl⟩ (fun r u H locs hp hP hS => ?_)
  obtain ⟨rfl, rfl⟩ := hp
  exact uIret S hr hlk (v, π) hP hS (⟨rfl, rfl⟩) d_B_firstOf_6

set_option maxRecDepth 100000 in
set_option maxHeartbeats 4000000 in
theorem c_B_lengthOf {l : Launch} {D : va_G} {ca : Nat → ClassId} {ad : Nat → Nat} (hJ : uJ 165 ad) (v : Nat → Nat → Nat → Int32) (π : Nat → Nat) (n : Nat) (hB : xBk v π n) (a : Int32) : uMi l y_B_lengthOf b_B_lengthOf 2 (some .int) 3 66 D clsAll (tysAll ca) 165 ad (xG ca ad) (v, π) [.ref (ad 4), .int a] (fun r u => u = (v, π) ∧ r = nI (pFor v π n (a + 1) 0) - nI (pFor v π n a 0)) := by
  refine uStart (by decide) (Nat.le_of_ble_eq_true rfl) ?_
  intro p e s m below meth c ls S hr hlk hK hN hP hl
  have hU : ∀ w ∈ uWS, w ∈ (Cond.code y_B_lengthOf b_B_lengthOf 2 (some .int) :: uWS) := fun w h => List.mem_cons_of_mem _ h
  have hS : va_S (uA 165 ad s.heap.size) s.heap s.heap [] := va_S.rf
  have hl : lv_has ls 2 [(0, .ref (ad 4)), (1, .int a)] := hl
  refine lv_aload_n S.1 S.2.1 d_B_lengthOf_0 rfl (lv_at hl 0 rfl) ?_
  refine lv_iload_n S.1 S.2.1 d_B_lengthOf_1 rfl (lv_at hl 1 rfl) ?_
  refine lv_iconst (v := 1) S.1 S.2.1 d_B_lengthOf_2 (by decide) ?_
  refine lv_iadd S.1 S.2.1 d_B_lengthOf_3 ?_
  refine uVi (n := 1) (b := 4) (As := [.int (a + 1)]) (rest := []) S hK hN hP hS (c_B_firstOf hJ v π n hB (a + 1)) ⟨hU, t3_73, t3_70, t1_5, by decide +kernel, by decide, by decide⟩ t3_71 t3_72 (by decide) xg_book rfl rfl rfl hl.1 rfl (Nat.le_of_ble_eq_true rfl) d_B_lengthOf_4 ⟨Nat.le_of_ble_eq_true rfl, Nat.le_of_ble_eq_true rfl⟩ (fun r u H locs hp hP hS => ?_)
  obtain ⟨rfl, rfl⟩ := hp
  refine lv_aload_n S.1 S.2.1 d_B_lengthOf_7 rfl (lv_at hl 0 rfl) ?_
  refine lv_iload_n S.1 S.2.1 d_B_lengthOf_8 rfl (lv_at hl 1 rfl) ?_
  refine uVi (n := 1) (b := 4) (As := [.int a]) (rest := [.int (nI (pFor v π n (a + 1) 0))]) S hK hN hP hS (c_B_firstOf hJ v π n hB a) ⟨hU, t3_73, t3_70, t1_5, by decide +kernel, by decide, by decide⟩ t3_71 t3_72 (by decide) xg_book rfl rfl rfl hl.1 rfl (Nat.le_of_ble_eq_true rfl) d_B_lengthOf_9 ⟨Nat.le_of_ble_eq_true rfl, Nat.le_of_ble_eq_true rfl⟩ (fun r u H locs hp hP hS => ?_)
  obtain ⟨rfl, rfl⟩ := hp
  refine lv_isub S.1 S.2.1 d_B_lengthOf_12 ?_
  exact uIret S hr hlk (v, π) hP hS (⟨rfl, rfl⟩) d_B_lengthOf_13

set_option maxRecDepth 100000 in
set_option maxHeartbeats 4000000 in
theorem c_B_moveCount {l : Launch} {D : va_G} {ca : Nat → ClassId} {ad : Nat → Nat} (hJ : uJ 165 ad) (v : Nat → Nat → Nat → Int32) (π : Nat → Nat) (n : Nat) (hB : xBk v π n) : uMi l y_B_moveCount b_B_moveCount 3 (some .int) 0 0 D clsAll (tysAll ca) 165 ad (xG ca ad) (v, π) [.ref (ad 4)] (fun r u => u = (v, π) ∧ r = mvs v π n) := by
  refine uStart (by decide) (Nat.le_of_ble_eq_true rfl) ?_
  intro p e s m below meth c ls S hr hlk hK hN hP hl
  have hU : ∀ w ∈ uWS, w ∈ (Cond.code y_B_moveCount b_B_moveCount 3 (some .int) :: uWS) := fun w h => List.mem_cons_of_mem _ h
  have hS : va_S (uA 165 ad s.heap.size) s.heap s.heap [] := va_S.rf
  have hl : lv_has ls 3 [(0, .ref (ad 4))] := hl
  have hn40 : n ≤ 40 := hB.2.1
  refine lv_iconst (v := 0) S.1 S.2.1 d_B_moveCount_0 (by decide) ?_
  refine lv_istore_n (lv' := [(1, .int 0), (0, .ref (ad 4))]) S.1 S.2.1 d_B_moveCount_1 rfl hl (by decide) rfl (fun ls hl => ?_)
  refine lv_iconst (v := 0) S.1 S.2.1 d_B_moveCount_2 (by decide) ?_
  refine lv_istore_n (lv' := [(2, .int 0), (1, .int 0), (0, .ref (ad 4))]) S.1 S.2.1 d_B_moveCount_3 rfl hl (by decide) rfl (fun ls hl => ?_)
  have L : ∀ i, i ≤ n → ∀ (H : Heap) (locs : List Loc) (ls : Array Slot), va_P D clsAll (uw 165 ad (xG ca ad (v, π))) H → va_S (uA 165 ad s.heap.size) s.heap H locs → lv_has ls 3 [(2, .int (nI i)), (1, .int (mvs v π i)), (0, .ref (ad 4))] → uGi 0 0 D clsAll 165 ad (xG ca ad) (fun r u => u = (v, π) ∧ r = mvs v π n) [.ref (ad 4)] p l e s m below meth c H locs 4 ls [] := by
    refine upTo n ?_ ?_
    · intro H locs ls hP hS hl
      refine lv_iload_n S.1 S.2.1 d_B_moveCount_4 rfl (lv_at hl 0 rfl) ?_
      refine lv_aload_n S.1 S.2.1 d_B_moveCount_5 rfl (lv_at hl 2 rfl) ?_
      refine ur_get (k := 4) (v := .int (v 4 0 0)) S hK hP (by decide) xg_book rfl (fun w h => hU w (in_B w h)) 1 (by decide) (hU _ t1_107) rfl d_B_moveCount_6 ?_
      refine lv_icmp_ge (tgt := 33) S.1 S.2.1 d_B_moveCount_9 (by decide) (fun c_h => ?_) (fun c_h => ?_)
      · refine lv_iload_n S.1 S.2.1 d_B_moveCount_33 rfl (lv_at hl 1 rfl) ?_
        exact uIret S hr hlk (v, π) hP hS (⟨rfl, rfl⟩) d_B_moveCount_34
      · exact absurd (by rw [hB.1]; exact nI_le (Nat.le_refl _) (by have := hB.2.1; omega)) c_h
    · intro i hi ih H locs ls hP hS hl
      refine lv_iload_n S.1 S.2.1 d_B_moveCount_4 rfl (lv_at hl 0 rfl) ?_
      refine lv_aload_n S.1 S.2.1 d_B_moveCount_5 rfl (lv_at hl 2 rfl) ?_
      refine ur_get (k := 4) (v := .int (v 4 0 0)) S hK hP (by decide) xg_book rfl (fun w h => hU w (in_B w h)) 1 (by decide) (hU _ t1_107) rfl d_B_moveCount_6 ?_
      refine lv_icmp_ge (tgt := 33) S.1 S.2.1 d_B_moveCount_9 (by decide) (fun c_h => ?_) (fun c_h => ?_)
      · exact absurd c_h (nI_litge hi (by have := hB.2.1; omega) hB.1)
      · refine lv_iload_n S.1 S.2.1 d_B_moveCount_12 rfl (lv_at hl 1 rfl) ?_
        refine lv_aload_n S.1 S.2.1 d_B_moveCount_13 rfl (lv_at hl 2 rfl) ?_
        refine ur_get (k := 4) (v := .ref (ad 5)) S hK hP (by decide) xg_book rfl (fun w h => hU w (in_B w h)) 0 (by decide) (hU _ t1_106) rfl d_B_moveCount_14 ?_
        refine lv_iload_n S.1 S.2.1 d_B_moveCount_17 rfl (lv_at hl 0 rfl) ?_
        refine ur_aald (k := 5) (q := ad (89 + π i)) (j := i) S hK hP (by decide) 2 xg_cues rfl rfl (by omega) (by decide) rfl d_B_moveCount_18 ?_
        refine ur_getN (k := (89 + (π i))) (v := .ref (ad (7 + 2 * (π i)))) S hK hP (kb_C (hB.2.2 _ (by omega))) (xg_cue (hB.2.2 _ (by omega))) rfl (fun w h => hU w (in_C w h)) 0 (by decide) (hN _ t1_74) rfl d_B_moveCount_19 ?_
        refine ur_getN (k := (7 + 2 * (π i))) (v := .int (v 16 (π i) 0)) S hK hP (kb_V (Nat.lt_succ_of_lt (hB.2.2 _ (by omega)))) (xg_row (Nat.lt_succ_of_lt (hB.2.2 _ (by omega)))) rfl (fun w h => hU w (in_V w h)) 1 (by decide) (hN _ t1_37) rfl d_B_moveCount_22 ?_
        refine lv_iadd S.1 S.2.1 d_B_moveCount_25 ?_
        refine lv_topi (fun x_1 ex_1 => ?_)
        refine lv_istore_n (lv' := [(1, .int x_1), (2, .int (nI i)), (0, .ref (ad 4))]) S.1 S.2.1 d_B_moveCount_26 rfl hl (by decide) rfl (fun ls hl => ?_)
        refine lv_iinc (v := nI (i + 1)) (lv' := [(2, .int (nI (i + 1))), (1, .int x_1), (0, .ref (ad 4))]) S.1 S.2.1 d_B_moveCount_27 hl (k := 1) rfl (nI_1 i) (by decide) rfl (fun ls hl => ?_)
        refine lv_goto (tgt := 4) S.1 S.2.1 d_B_moveCount_30 (by decide) ?_
        subst ex_1
        exact ih _ _ ls hP hS (lv_sub hl [0, 1, 2] rfl)
  exact L 0 (Nat.zero_le _) _ _ ls hP hS (lv_sub hl [0, 1, 2] rfl)

set_option maxRecDepth 100000 in
set_option maxHeartbeats 4000000 in
theorem c_B_at {l : Launch} {D : va_G} {ca : Nat → ClassId} {ad : Nat → Nat} (hJ : uJ 165 ad) (v : Nat → Nat → Nat → Int32) (π : Nat → Nat) (q : Nat) (hq : q < 40) : uMr l y_B_at b_B_at 2 (some (.object "LightingDesk$Cue")) 0 0 D clsAll (tysAll ca) 165 ad (xG ca ad) (v, π) [.ref (ad 4), .int (nI q)] (fun r u => u = (v, π) ∧ r = ad (89 + π q)) := by
  refine uStart (by decide) (Nat.le_of_ble_eq_true rfl) ?_
  intro p e s m below meth c ls S hr hlk hK hN hP hl
  have hU : ∀ w ∈ uWS, w ∈ (Cond.code y_B_at b_B_at 2 (some (.object "LightingDesk$Cue")) :: uWS) := fun w h => List.mem_cons_of_mem _ h
  have hS : va_S (uA 165 ad s.heap.size) s.heap s.heap [] := va_S.rf
  have hl : lv_has ls 2 [(0, .ref (ad 4)), (1, .int (nI q))] := hl
  refine lv_aload_n S.1 S.2.1 d_B_at_0 rfl (lv_at hl 0 rfl) ?_
  refine ur_get (k := 4) (v := .ref (ad 5)) S hK hP (by decide) xg_book rfl (fun w h => hU w (in_B w h)) 0 (by decide) (hU _ t1_106) rfl d_B_at_1 ?_
  refine lv_iload_n S.1 S.2.1 d_B_at_4 rfl (lv_at hl 1 rfl) ?_
  refine ur_aald (k := 5) (q := ad (89 + π q)) (j := q) S hK hP (by decide) 2 xg_cues rfl rfl hq (by decide) rfl d_B_at_5 ?_
  exact uRret S hr hlk (v, π) hP hS (⟨rfl, rfl⟩) d_B_at_6

set_option maxRecDepth 100000 in
set_option maxHeartbeats 4000000 in
theorem c_B_orUnset {l : Launch} {D : va_G} {ca : Nat → ClassId} {ad : Nat → Nat} (hJ : uJ 165 ad) (v : Nat → Nat → Nat → Int32) (π : Nat → Nat) (x0 : Int32) : uMi l y_B_orUnset b_B_orUnset 1 (some .int) 0 0 D clsAll (tysAll ca) 165 ad (xG ca ad) (v, π) [.int x0] (fun r u => u = (v, π) ∧ r = orU x0) := by
  refine uStart (by decide) (Nat.le_of_ble_eq_true rfl) ?_
  intro p e s m below meth c ls S hr hlk hK hN hP hl
  have hU : ∀ w ∈ uWS, w ∈ (Cond.code y_B_orUnset b_B_orUnset 1 (some .int) :: uWS) := fun w h => List.mem_cons_of_mem _ h
  have hS : va_S (uA 165 ad s.heap.size) s.heap s.heap [] := va_S.rf
  have hl : lv_has ls 1 [(0, .int x0)] := hl
  refine lv_iload_n S.1 S.2.1 d_B_orUnset_0 rfl (lv_at hl 0 rfl) ?_
  refine lv_iconst (v := (-1)) S.1 S.2.1 d_B_orUnset_1 (by decide) ?_
  refine lv_icmp_ne (tgt := 11) S.1 S.2.1 d_B_orUnset_2 (by decide) (fun c_1 => ?_) (fun c_1 => ?_)
  · refine lv_iload_n S.1 S.2.1 d_B_orUnset_11 rfl (lv_at hl 0 rfl) ?_
    exact uIret S hr hlk (v, π) hP hS (by refine ⟨rfl, ?_⟩; simp [orU, c_1]) d_B_orUnset_12
  · refine lv_sipush (v := 272) S.1 S.2.1 d_B_orUnset_5 (by decide) ?_
    refine lv_goto (tgt := 12) S.1 S.2.1 d_B_orUnset_8 (by decide) ?_
    exact uIret S hr hlk (v, π) hP hS (by refine ⟨rfl, ?_⟩; simp [orU, c_1]) d_B_orUnset_12
