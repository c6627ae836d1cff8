/-! The model: counts, and methods that throw nothing (printed by wip/gen/gen_m2.py) -/
set_option maxRecDepth 100000 in
set_option maxHeartbeats 4000000 in
theorem c_M_movesOf {l : Launch} {D : va_G} {ca : Nat → ClassId} {ad : Nat → Nat} (hJ : uJ 22 ad) (w : Nat → Nat → Int32) (M : Nat) (hM : M = 64) (q : Nat) (hq : q < 40) : uMi l y_M_movesOf b_M_movesOf 4 (some .int) 1 22 D clsAll (tysAll ca) 22 ad (mG ca ad) w [.ref (ad 0), .int (nI q)] (fun r u => u = w ∧ r = mMv w q M) := by
  refine uStart (by decide) (Nat.le_of_ble_eq_true rfl) ?_
  intro p e s m below meth c ls S hr hlk hK hN hP hl
  have hU : ∀ w ∈ uWS, w ∈ (Cond.code y_M_movesOf b_M_movesOf 4 (some .int) :: uWS) := fun w h => List.mem_cons_of_mem _ h
  have hS : va_S (uA 22 ad s.heap.size) s.heap s.heap [] := va_S.rf
  have hl : lv_has ls 4 [(0, .ref (ad 0)), (1, .int (nI q))] := hl
  refine lv_iconst (v := 0) S.1 S.2.1 d_M_movesOf_0 (by decide) ?_
  refine lv_istore_n (lv' := [(2, .int 0), (0, .ref (ad 0)), (1, .int (nI q))]) S.1 S.2.1 d_M_movesOf_1 rfl hl (by decide) rfl (fun ls hl => ?_)
  refine lv_iconst (v := 0) S.1 S.2.1 d_M_movesOf_2 (by decide) ?_
  refine lv_istore_n (lv' := [(3, .int 0), (2, .int 0), (0, .ref (ad 0)), (1, .int (nI q))]) S.1 S.2.1 d_M_movesOf_3 rfl hl (by decide) rfl (fun ls hl => ?_)
  have L : ∀ i, i ≤ M → ∀ (H : Heap) (locs : List Loc) (ls : Array Slot), va_P D clsAll (uw 22 ad (mG ca ad w)) H → va_S (uA 22 ad s.heap.size) s.heap H locs → lv_has ls 4 [(3, .int (nI i)), (2, .int (mMv w q i)), (0, .ref (ad 0)), (1, .int (nI q))] → uGi 1 22 D clsAll 22 ad (mG ca ad) (fun r u => u = w ∧ r = mMv w q M) [.ref (ad 0), .int (nI q)] p l e s m below meth c H locs 4 ls [] := by
    refine upTo M ?_ ?_
    · intro H locs ls hP hS hl
      refine lv_iload_n S.1 S.2.1 d_M_movesOf_4 rfl (lv_at hl 0 rfl) ?_
      refine lv_bipush (v := 64) S.1 S.2.1 d_M_movesOf_5 (by decide) ?_
      refine lv_icmp_ge (tgt := 34) S.1 S.2.1 d_M_movesOf_7 (by decide) (fun c_h => ?_) (fun c_h => ?_)
      · refine lv_iload_n S.1 S.2.1 d_M_movesOf_34 rfl (lv_at hl 1 rfl) ?_
        exact uIret S hr hlk w hP hS (⟨rfl, rfl⟩) d_M_movesOf_35
      · exact absurd (by subst hM; exact nI_le (Nat.le_refl 64) (by decide)) c_h
    · intro i hi ih H locs ls hP hS hl
      refine lv_iload_n S.1 S.2.1 d_M_movesOf_4 rfl (lv_at hl 0 rfl) ?_
      refine lv_bipush (v := 64) S.1 S.2.1 d_M_movesOf_5 (by decide) ?_
      refine lv_icmp_ge (tgt := 34) S.1 S.2.1 d_M_movesOf_7 (by decide) (fun c_h => ?_) (fun c_h => ?_)
      · exact absurd c_h (nI_ge (b := 64) (by omega) (by decide))
      · refine lv_iload_n S.1 S.2.1 d_M_movesOf_10 rfl (lv_at hl 1 rfl) ?_
        refine lv_aload_n S.1 S.2.1 d_M_movesOf_11 rfl (lv_at hl 2 rfl) ?_
        refine lv_iload_n S.1 S.2.1 d_M_movesOf_12 rfl (lv_at hl 3 rfl) ?_
        refine lv_iload_n S.1 S.2.1 d_M_movesOf_13 rfl (lv_at hl 0 rfl) ?_
        refine uVi (n := 2) (b := 0) (As := [.int (nI q), .int (nI i)]) (rest := [.int (mMv w q i)]) S hK hN hP hS (c_M_moveOf hJ w q i hq (by omega)) ⟨hU, t4_39, t4_36, t1_8, by decide +kernel, by decide, by decide⟩ t4_38 tp_17 (by decide) mg_obj rfl rfl rfl hl.1 rfl (Nat.le_of_ble_eq_true rfl) d_M_movesOf_14 ⟨Nat.le_of_ble_eq_true rfl, Nat.le_of_ble_eq_true rfl⟩ (fun r u H locs hp hP hS => ?_)
        obtain ⟨hu, rfl⟩ := hp
        rw [hu] at hP
        refine lv_iconst (v := (-1)) S.1 S.2.1 d_M_movesOf_17 (by decide) ?_
        refine lv_icmp_eq (tgt := 25) S.1 S.2.1 d_M_movesOf_18 (by decide) (fun c_v => ?_) (fun c_v => ?_)
        · refine lv_iconst (v := 0) S.1 S.2.1 d_M_movesOf_25 (by decide) ?_
          refine lv_iadd S.1 S.2.1 d_M_movesOf_26 ?_
          refine lv_topi (fun x_1 ex_1 => ?_)
          refine lv_istore_n (lv' := [(2, .int x_1), (3, .int (nI i)), (0, .ref (ad 0)), (1, .int (nI q))]) S.1 S.2.1 d_M_movesOf_27 rfl hl (by decide) rfl (fun ls hl => ?_)
          refine lv_iinc (v := nI (i + 1)) (lv' := [(3, .int (nI (i + 1))), (2, .int x_1), (0, .ref (ad 0)), (1, .int (nI q))]) S.1 S.2.1 d_M_movesOf_28 hl (k := 1) rfl (nI_1 i) (by decide) rfl (fun ls hl => ?_)
          refine lv_goto (tgt := 4) S.1 S.2.1 d_M_movesOf_31 (by decide) ?_
          exact ih _ _ ls hP hS (by rw [show mMv w q (i + 1) = x_1 from by rw [ex_1, mMv, if_pos c_v]]; exact lv_sub hl [0, 1, 2, 3] rfl)
        · refine lv_iconst (v := 1) S.1 S.2.1 d_M_movesOf_21 (by decide) ?_
          refine lv_goto (tgt := 26) S.1 S.2.1 d_M_movesOf_22 (by decide) ?_
          refine lv_iadd S.1 S.2.1 d_M_movesOf_26 ?_
          refine lv_topi (fun x_2 ex_2 => ?_)
          refine lv_istore_n (lv' := [(2, .int x_2), (3, .int (nI i)), (0, .ref (ad 0)), (1, .int (nI q))]) S.1 S.2.1 d_M_movesOf_27 rfl hl (by decide) rfl (fun ls hl => ?_)
          refine lv_iinc (v := nI (i + 1)) (lv' := [(3, .int (nI (i + 1))), (2, .int x_2), (0, .ref (ad 0)), (1, .int (nI q))]) S.1 S.2.1 d_M_movesOf_28 hl (k := 1) rfl (nI_1 i) (by decide) rfl (fun ls hl => ?_)
          refine lv_goto (tgt := 4) S.1 S.2.1 d_M_movesOf_31 (by decide) ?_
          exact ih _ _ ls hP hS (by rw [show mMv w q (i + 1) = x_2 from by rw [ex_2, mMv, if_neg c_v]]; exact lv_sub hl [0, 1, 2, 3] rfl)
  exact L 0 (Nat.zero_le _) _ _ ls hP hS (lv_sub hl [0, 1, 2, 3] rfl)

set_option maxRecDepth 100000 in
set_option maxHeartbeats 4000000 in
theorem c_M_cueCount {l : Launch} {D : va_G} {ca : Nat → ClassId} {ad : Nat → Nat} (hJ : uJ 22 ad) (w : Nat → Nat → Int32) (F : Nat) (hF : F = 40) : uMi l y_M_cueCount b_M_cueCount 3 (some .int) 0 0 D clsAll (tysAll ca) 22 ad (mG ca ad) w [.ref (ad 0)] (fun r u => u = w ∧ r = mCc w F) := by
  refine uStart (by decide) (Nat.le_of_ble_eq_true rfl) ?_
  intro p e s m below meth c ls S hr hlk hK hN hP hl
  have hU : ∀ w ∈ uWS, w ∈ (Cond.code y_M_cueCount b_M_cueCount 3 (some .int) :: uWS) := fun w h => List.mem_cons_of_mem _ h
  have hS : va_S (uA 22 ad s.heap.size) s.heap s.heap [] := va_S.rf
  have hl : lv_has ls 3 [(0, .ref (ad 0))] := hl
  refine lv_iconst (v := 0) S.1 S.2.1 d_M_cueCount_0 (by decide) ?_
  refine lv_istore_n (lv' := [(1, .int 0), (0, .ref (ad 0))]) S.1 S.2.1 d_M_cueCount_1 rfl hl (by decide) rfl (fun ls hl => ?_)
  refine lv_iconst (v := 0) S.1 S.2.1 d_M_cueCount_2 (by decide) ?_
  refine lv_istore_n (lv' := [(2, .int 0), (1, .int 0), (0, .ref (ad 0))]) S.1 S.2.1 d_M_cueCount_3 rfl hl (by decide) rfl (fun ls hl => ?_)
  have L : ∀ i, i ≤ F → ∀ (H : Heap) (locs : List Loc) (ls : Array Slot), va_P D clsAll (uw 22 ad (mG ca ad w)) H → va_S (uA 22 ad s.heap.size) s.heap H locs → lv_has ls 3 [(2, .int (nI i)), (1, .int (mCc w i)), (0, .ref (ad 0))] → uGi 0 0 D clsAll 22 ad (mG ca ad) (fun r u => u = w ∧ r = mCc w F) [.ref (ad 0)] p l e s m below meth c H locs 4 ls [] := by
    refine upTo F ?_ ?_
    · intro H locs ls hP hS hl
      refine lv_iload_n S.1 S.2.1 d_M_cueCount_4 rfl (lv_at hl 0 rfl) ?_
      refine lv_bipush (v := 40) S.1 S.2.1 d_M_cueCount_5 (by decide) ?_
      refine lv_icmp_ge (tgt := 33) S.1 S.2.1 d_M_cueCount_7 (by decide) (fun c_h => ?_) (fun c_h => ?_)
      · refine lv_iload_n S.1 S.2.1 d_M_cueCount_33 rfl (lv_at hl 1 rfl) ?_
        exact uIret S hr hlk w hP hS (⟨rfl, rfl⟩) d_M_cueCount_34
      · exact absurd (by subst hF; exact nI_le (Nat.le_refl 40) (by decide)) c_h
    · intro i hi ih H locs ls hP hS hl
      refine lv_iload_n S.1 S.2.1 d_M_cueCount_4 rfl (lv_at hl 0 rfl) ?_
      refine lv_bipush (v := 40) S.1 S.2.1 d_M_cueCount_5 (by decide) ?_
      refine lv_icmp_ge (tgt := 33) S.1 S.2.1 d_M_cueCount_7 (by decide) (fun c_h => ?_) (fun c_h => ?_)
      · exact absurd c_h (nI_ge (b := 40) (by omega) (by decide))
      · refine lv_iload_n S.1 S.2.1 d_M_cueCount_10 rfl (lv_at hl 1 rfl) ?_
        refine lv_aload_n S.1 S.2.1 d_M_cueCount_11 rfl (lv_at hl 2 rfl) ?_
        refine ur_get (k := 0) (v := .ref (ad 4)) S hK hP (by decide) mg_obj rfl (fun w h => hU w (in_M w h)) 4 (by decide) (hU _ t3_164) rfl d_M_cueCount_12 ?_
        refine lv_iload_n S.1 S.2.1 d_M_cueCount_15 rfl (lv_at hl 0 rfl) ?_
        refine ur_iald (k := 4) (n := 40) (f := (w 4)) (j := i) S hK hP (by decide) 0 (mg_arr 4 (by decide)) rfl rfl (by omega) (by decide) d_M_cueCount_16 ?_
        refine lv_if_lt (tgt := 24) S.1 S.2.1 d_M_cueCount_17 (by decide) (fun c_v => ?_) (fun c_v => ?_)
        · refine lv_iconst (v := 0) S.1 S.2.1 d_M_cueCount_24 (by decide) ?_
          refine lv_iadd S.1 S.2.1 d_M_cueCount_25 ?_
          refine lv_topi (fun x_1 ex_1 => ?_)
          refine lv_istore_n (lv' := [(1, .int x_1), (2, .int (nI i)), (0, .ref (ad 0))]) S.1 S.2.1 d_M_cueCount_26 rfl hl (by decide) rfl (fun ls hl => ?_)
          refine lv_iinc (v := nI (i + 1)) (lv' := [(2, .int (nI (i + 1))), (1, .int x_1), (0, .ref (ad 0))]) S.1 S.2.1 d_M_cueCount_27 hl (k := 1) rfl (nI_1 i) (by decide) rfl (fun ls hl => ?_)
          refine lv_goto (tgt := 4) S.1 S.2.1 d_M_cueCount_30 (by decide) ?_
          exact ih _ _ ls hP hS (by rw [show mCc w (i + 1) = x_1 from by rw [ex_1, mCc, if_pos c_v]]; exact lv_sub hl [0, 1, 2] rfl)
        · refine lv_iconst (v := 1) S.1 S.2.1 d_M_cueCount_20 (by decide) ?_
          refine lv_goto (tgt := 25) S.1 S.2.1 d_M_cueCount_21 (by decide) ?_
          refine lv_iadd S.1 S.2.1 d_M_cueCount_25 ?_
          refine lv_topi (fun x_2 ex_2 => ?_)
          refine lv_istore_n (lv' := [(1, .int x_2), (2, .int (nI i)), (0, .ref (ad 0))]) S.1 S.2.1 d_M_cueCount_26 rfl hl (by decide) rfl (fun ls hl => ?_)
          refine lv_iinc (v := nI (i + 1)) (lv' := [(2, .int (nI (i + 1))), (1, .int x_2), (0, .ref (ad 0))]) S.1 S.2.1 d_M_cueCount_27 hl (k := 1) rfl (nI_1 i) (by decide) rfl (fun ls hl => ?_)
          refine lv_goto (tgt := 4) S.1 S.2.1 d_M_cueCount_30 (by decide) ?_
          exact ih _ _ ls hP hS (by rw [show mCc w (i + 1) = x_2 from by rw [ex_2, mCc, if_neg c_v]]; exact lv_sub hl [0, 1, 2] rfl)
  exact L 0 (Nat.zero_le _) _ _ ls hP hS (lv_sub hl [0, 1, 2] rfl)

set_option maxRecDepth 100000 in
set_option maxHeartbeats 4000000 in
theorem c_M_moveCount {l : Launch} {D : va_G} {ca : Nat → ClassId} {ad : Nat → Nat} (hJ : uJ 22 ad) (w : Nat → Nat → Int32) (M : Nat) (hM : M = 64) (F : Nat) (hF : F = 40) : uMi l y_M_moveCount b_M_moveCount 3 (some .int) 2 45 D clsAll (tysAll ca) 22 ad (mG ca ad) w [.ref (ad 0)] (fun r u => u = w ∧ r = mMc w M F) := by
  refine uStart (by decide) (Nat.le_of_ble_eq_true rfl) ?_
  intro p e s m below meth c ls S hr hlk hK hN hP hl
  have hU : ∀ w ∈ uWS, w ∈ (Cond.code y_M_moveCount b_M_moveCount 3 (some .int) :: uWS) := fun w h => List.mem_cons_of_mem _ h
  have hS : va_S (uA 22 ad s.heap.size) s.heap s.heap [] := va_S.rf
  have hl : lv_has ls 3 [(0, .ref (ad 0))] := hl
  refine lv_iconst (v := 0) S.1 S.2.1 d_M_moveCount_0 (by decide) ?_
  refine lv_istore_n (lv' := [(1, .int 0), (0, .ref (ad 0))]) S.1 S.2.1 d_M_moveCount_1 rfl hl (by decide) rfl (fun ls hl => ?_)
  refine lv_iconst (v := 0) S.1 S.2.1 d_M_moveCount_2 (by decide) ?_
  refine lv_istore_n (lv' := [(2, .int 0), (1, .int 0), (0, .ref (ad 0))]) S.1 S.2.1 d_M_moveCount_3 rfl hl (by decide) rfl (fun ls hl => ?_)
  have L : ∀ i, i ≤ F → ∀ (H : Heap) (locs : List Loc) (ls : Array Slot), va_P D clsAll (uw 22 ad (mG ca ad w)) H → va_S (uA 22 ad s.heap.size) s.heap H locs → lv_has ls 3 [(2, .int (nI i)), (1, .int (mMc w M i)), (0, .ref (ad 0))] → uGi 2 45 D clsAll 22 ad (mG ca ad) (fun r u => u = w ∧ r = mMc w M F) [.ref (ad 0)] p l e s m below meth c H locs 4 ls [] := by
    refine upTo F ?_ ?_
    · intro H locs ls hP hS hl
      refine lv_iload_n S.1 S.2.1 d_M_moveCount_4 rfl (lv_at hl 0 rfl) ?_
      refine lv_bipush (v := 40) S.1 S.2.1 d_M_moveCount_5 (by decide) ?_
      refine lv_icmp_ge (tgt := 37) S.1 S.2.1 d_M_moveCount_7 (by decide) (fun c_h => ?_) (fun c_h => ?_)
      · refine lv_iload_n S.1 S.2.1 d_M_moveCount_37 rfl (lv_at hl 1 rfl) ?_
        exact uIret S hr hlk w hP hS (⟨rfl, rfl⟩) d_M_moveCount_38
      · exact absurd (by subst hF; exact nI_le (Nat.le_refl 40) (by decide)) c_h
    · intro i hi ih H locs ls hP hS hl
      refine lv_iload_n S.1 S.2.1 d_M_moveCount_4 rfl (lv_at hl 0 rfl) ?_
      refine lv_bipush (v := 40) S.1 S.2.1 d_M_moveCount_5 (by decide) ?_
      refine lv_icmp_ge (tgt := 37) S.1 S.2.1 d_M_moveCount_7 (by decide) (fun c_h => ?_) (fun c_h => ?_)
      · exact absurd c_h (nI_ge (b := 40) (by omega) (by decide))
      · refine lv_iload_n S.1 S.2.1 d_M_moveCount_10 rfl (lv_at hl 1 rfl) ?_
        refine lv_aload_n S.1 S.2.1 d_M_moveCount_11 rfl (lv_at hl 2 rfl) ?_
        refine ur_get (k := 0) (v := .ref (ad 4)) S hK hP (by decide) mg_obj rfl (fun w h => hU w (in_M w h)) 4 (by decide) (hU _ t3_164) rfl d_M_moveCount_12 ?_
        refine lv_iload_n S.1 S.2.1 d_M_moveCount_15 rfl (lv_at hl 0 rfl) ?_
        refine ur_iald (k := 4) (n := 40) (f := (w 4)) (j := i) S hK hP (by decide) 0 (mg_arr 4 (by decide)) rfl rfl (by omega) (by decide) d_M_moveCount_16 ?_
        refine lv_if_lt (tgt := 28) S.1 S.2.1 d_M_moveCount_17 (by decide) (fun c_v => ?_) (fun c_v => ?_)
        · refine lv_iconst (v := 0) S.1 S.2.1 d_M_moveCount_28 (by decide) ?_
          refine lv_iadd S.1 S.2.1 d_M_moveCount_29 ?_
          refine lv_topi (fun x_1 ex_1 => ?_)
          refine lv_istore_n (lv' := [(1, .int x_1), (2, .int (nI i)), (0, .ref (ad 0))]) S.1 S.2.1 d_M_moveCount_30 rfl hl (by decide) rfl (fun ls hl => ?_)
          refine lv_iinc (v := nI (i + 1)) (lv' := [(2, .int (nI (i + 1))), (1, .int x_1), (0, .ref (ad 0))]) S.1 S.2.1 d_M_moveCount_31 hl (k := 1) rfl (nI_1 i) (by decide) rfl (fun ls hl => ?_)
          refine lv_goto (tgt := 4) S.1 S.2.1 d_M_moveCount_34 (by decide) ?_
          exact ih _ _ ls hP hS (by rw [show mMc w M (i + 1) = x_1 from by rw [ex_1, mMc, if_pos c_v]]; exact lv_sub hl [0, 1, 2] rfl)
        · refine lv_aload_n S.1 S.2.1 d_M_moveCount_20 rfl (lv_at hl 2 rfl) ?_
          refine lv_iload_n S.1 S.2.1 d_M_moveCount_21 rfl (lv_at hl 0 rfl) ?_
          refine uVi (n := 1) (b := 0) (As := [.int (nI i)]) (rest := [.int (mMc w M i)]) S hK hN hP hS (c_M_movesOf hJ w M hM i (by omega)) ⟨hU, t4_51, t4_48, t1_8, by decide +kernel, by decide, by decide⟩ t4_50 tp_20 (by decide) mg_obj rfl rfl rfl hl.1 rfl (Nat.le_of_ble_eq_true rfl) d_M_moveCount_22 ⟨Nat.le_of_ble_eq_true rfl, Nat.le_of_ble_eq_true rfl⟩ (fun r u H locs hp hP hS => ?_)
          obtain ⟨hu, rfl⟩ := hp
          rw [hu] at hP
          refine lv_goto (tgt := 29) S.1 S.2.1 d_M_moveCount_25 (by decide) ?_
          refine lv_iadd S.1 S.2.1 d_M_moveCount_29 ?_
          refine lv_topi (fun x_2 ex_2 => ?_)
          refine lv_istore_n (lv' := [(1, .int x_2), (2, .int (nI i)), (0, .ref (ad 0))]) S.1 S.2.1 d_M_moveCount_30 rfl hl (by decide) rfl (fun ls hl => ?_)
          refine lv_iinc (v := nI (i + 1)) (lv' := [(2, .int (nI (i + 1))), (1, .int x_2), (0, .ref (ad 0))]) S.1 S.2.1 d_M_moveCount_31 hl (k := 1) rfl (nI_1 i) (by decide) rfl (fun ls hl => ?_)
          refine lv_goto (tgt := 4) S.1 S.2.1 d_M_moveCount_34 (by decide) ?_
          exact ih _ _ ls hP hS (by rw [show mMc w M (i + 1) = x_2 from by rw [ex_2, mMc, if_neg c_v]]; exact lv_sub hl [0, 1, 2] rfl)
  exact L 0 (Nat.zero_le _) _ _ ls hP hS (lv_sub hl [0, 1, 2] rfl)

set_option maxRecDepth 100000 in
set_option maxHeartbeats 4000000 in
theorem c_M_keptMoves {l : Launch} {D : va_G} {ca : Nat → ClassId} {ad : Nat → Nat} (hJ : uJ 22 ad) (w : Nat → Nat → Int32) (M : Nat) (hM : M = 64) (q : Nat) (hq : q < 40) : uMi l y_M_keptMoves b_M_keptMoves 4 (some .int) 1 22 D clsAll (tysAll ca) 22 ad (mG ca ad) w [.ref (ad 0), .int (nI q)] (fun r u => u = w ∧ r = mKm w q M) := by
  refine uStart (by decide) (Nat.le_of_ble_eq_true rfl) ?_
  intro p e s m below meth c ls S hr hlk hK hN hP hl
  have hU : ∀ w ∈ uWS, w ∈ (Cond.code y_M_keptMoves b_M_keptMoves 4 (some .int) :: uWS) := fun w h => List.mem_cons_of_mem _ h
  have hS : va_S (uA 22 ad s.heap.size) s.heap s.heap [] := va_S.rf
  have hl : lv_has ls 4 [(0, .ref (ad 0)), (1, .int (nI q))] := hl
  refine lv_iconst (v := 0) S.1 S.2.1 d_M_keptMoves_0 (by decide) ?_
  refine lv_istore_n (lv' := [(2, .int 0), (0, .ref (ad 0)), (1, .int (nI q))]) S.1 S.2.1 d_M_keptMoves_1 rfl hl (by decide) rfl (fun ls hl => ?_)
  refine lv_iconst (v := 0) S.1 S.2.1 d_M_keptMoves_2 (by decide) ?_
  refine lv_istore_n (lv' := [(3, .int 0), (2, .int 0), (0, .ref (ad 0)), (1, .int (nI q))]) S.1 S.2.1 d_M_keptMoves_3 rfl hl (by decide) rfl (fun ls hl => ?_)
  have L : ∀ i, i ≤ M → ∀ (H : Heap) (locs : List Loc) (ls : Array Slot), va_P D clsAll (uw 22 ad (mG ca ad w)) H → va_S (uA 22 ad s.heap.size) s.heap H locs → lv_has ls 4 [(3, .int (nI i)), (2, .int (mKm w q i)), (0, .ref (ad 0)), (1, .int (nI q))] → uGi 1 22 D clsAll 22 ad (mG ca ad) (fun r u => u = w ∧ r = mKm w q M) [.ref (ad 0), .int (nI q)] p l e s m below meth c H locs 4 ls [] := by
    refine upTo M ?_ ?_
    · intro H locs ls hP hS hl
      refine lv_iload_n S.1 S.2.1 d_M_keptMoves_4 rfl (lv_at hl 0 rfl) ?_
      refine lv_bipush (v := 64) S.1 S.2.1 d_M_keptMoves_5 (by decide) ?_
      refine lv_icmp_ge (tgt := 48) S.1 S.2.1 d_M_keptMoves_7 (by decide) (fun c_h => ?_) (fun c_h => ?_)
      · refine lv_iload_n S.1 S.2.1 d_M_keptMoves_48 rfl (lv_at hl 1 rfl) ?_
        exact uIret S hr hlk w hP hS (⟨rfl, rfl⟩) d_M_keptMoves_49
      · exact absurd (by subst hM; exact nI_le (Nat.le_refl 64) (by decide)) c_h
    · intro i hi ih H locs ls hP hS hl
      refine lv_iload_n S.1 S.2.1 d_M_keptMoves_4 rfl (lv_at hl 0 rfl) ?_
      refine lv_bipush (v := 64) S.1 S.2.1 d_M_keptMoves_5 (by decide) ?_
      refine lv_icmp_ge (tgt := 48) S.1 S.2.1 d_M_keptMoves_7 (by decide) (fun c_h => ?_) (fun c_h => ?_)
      · exact absurd c_h (nI_ge (b := 64) (by omega) (by decide))
      · refine lv_iload_n S.1 S.2.1 d_M_keptMoves_10 rfl (lv_at hl 3 rfl) ?_
        refine lv_if_lt (tgt := 48) S.1 S.2.1 d_M_keptMoves_11 (by decide) (fun c_1 => ?_) (fun c_1 => ?_)
        · exact absurd c_1 (nI_pos (by omega))
        · refine lv_iload_n S.1 S.2.1 d_M_keptMoves_14 rfl (lv_at hl 1 rfl) ?_
          refine lv_aload_n S.1 S.2.1 d_M_keptMoves_15 rfl (lv_at hl 2 rfl) ?_
          refine ur_get (k := 0) (v := .ref (ad 2)) S hK hP (by decide) mg_obj rfl (fun w h => hU w (in_M w h)) 2 (by decide) (hU _ t3_162) rfl d_M_keptMoves_16 ?_
          refine lv_iload_n S.1 S.2.1 d_M_keptMoves_19 rfl (lv_at hl 0 rfl) ?_
          refine ur_sald (k := 2) (n := 64) (f := (w 2)) (j := i) S hK hP (by decide) 4 (mg_arr 2 (by decide)) rfl rfl (by omega) (by decide) d_M_keptMoves_20 ?_
          refine lv_iconst (v := (-1)) S.1 S.2.1 d_M_keptMoves_21 (by decide) ?_
          refine lv_icmp_eq (tgt := 39) S.1 S.2.1 d_M_keptMoves_22 (by decide) (fun c_v => ?_) (fun c_v => ?_)
          · refine lv_iconst (v := 0) S.1 S.2.1 d_M_keptMoves_39 (by decide) ?_
            refine lv_iadd S.1 S.2.1 d_M_keptMoves_40 ?_
            refine lv_topi (fun x_2 ex_2 => ?_)
            refine lv_istore_n (lv' := [(2, .int x_2), (3, .int (nI i)), (0, .ref (ad 0)), (1, .int (nI q))]) S.1 S.2.1 d_M_keptMoves_41 rfl hl (by decide) rfl (fun ls hl => ?_)
            refine lv_iinc (v := nI (i + 1)) (lv' := [(3, .int (nI (i + 1))), (2, .int x_2), (0, .ref (ad 0)), (1, .int (nI q))]) S.1 S.2.1 d_M_keptMoves_42 hl (k := 1) rfl (nI_1 i) (by decide) rfl (fun ls hl => ?_)
            refine lv_goto (tgt := 4) S.1 S.2.1 d_M_keptMoves_45 (by decide) ?_
            exact ih _ _ ls hP hS (by rw [show mKm w q (i + 1) = x_2 from by rw [ex_2, mKm, if_neg (fun z => z.1 c_v)]]; exact lv_sub hl [0, 1, 2, 3] rfl)
          · refine lv_aload_n S.1 S.2.1 d_M_keptMoves_25 rfl (lv_at hl 2 rfl) ?_
            refine lv_iload_n S.1 S.2.1 d_M_keptMoves_26 rfl (lv_at hl 3 rfl) ?_
            refine lv_iload_n S.1 S.2.1 d_M_keptMoves_27 rfl (lv_at hl 0 rfl) ?_
            refine uVi (n := 2) (b := 0) (As := [.int (nI q), .int (nI i)]) (rest := [.int (mKm w q i)]) S hK hN hP hS (c_M_moveOf hJ w q i hq (by omega)) ⟨hU, t4_39, t4_36, t1_8, by decide +kernel, by decide, by decide⟩ t4_38 tp_17 (by decide) mg_obj rfl rfl rfl hl.1 rfl (Nat.le_of_ble_eq_true rfl) d_M_keptMoves_28 ⟨Nat.le_of_ble_eq_true rfl, Nat.le_of_ble_eq_true rfl⟩ (fun r u H locs hp hP hS => ?_)
            obtain ⟨hu, rfl⟩ := hp
            rw [hu] at hP
            refine lv_iconst (v := (-1)) S.1 S.2.1 d_M_keptMoves_31 (by decide) ?_
            refine lv_icmp_ne (tgt := 39) S.1 S.2.1 d_M_keptMoves_32 (by decide) (fun c_w => ?_) (fun c_w => ?_)
            · refine lv_iconst (v := 0) S.1 S.2.1 d_M_keptMoves_39 (by decide) ?_
              refine lv_iadd S.1 S.2.1 d_M_keptMoves_40 ?_
              refine lv_topi (fun x_3 ex_3 => ?_)
              refine lv_istore_n (lv' := [(2, .int x_3), (3, .int (nI i)), (0, .ref (ad 0)), (1, .int (nI q))]) S.1 S.2.1 d_M_keptMoves_41 rfl hl (by decide) rfl (fun ls hl => ?_)
              refine lv_iinc (v := nI (i + 1)) (lv' := [(3, .int (nI (i + 1))), (2, .int x_3), (0, .ref (ad 0)), (1, .int (nI q))]) S.1 S.2.1 d_M_keptMoves_42 hl (k := 1) rfl (nI_1 i) (by decide) rfl (fun ls hl => ?_)
              refine lv_goto (tgt := 4) S.1 S.2.1 d_M_keptMoves_45 (by decide) ?_
              exact ih _ _ ls hP hS (by rw [show mKm w q (i + 1) = x_3 from by rw [ex_3, mKm, if_neg (fun z => c_w z.2)]]; exact lv_sub hl [0, 1, 2, 3] rfl)
            · refine lv_iconst (v := 1) S.1 S.2.1 d_M_keptMoves_35 (by decide) ?_
              refine lv_goto (tgt := 40) S.1 S.2.1 d_M_keptMoves_36 (by decide) ?_
              refine lv_iadd S.1 S.2.1 d_M_keptMoves_40 ?_
              refine lv_topi (fun x_4 ex_4 => ?_)
              refine lv_istore_n (lv' := [(2, .int x_4), (3, .int (nI i)), (0, .ref (ad 0)), (1, .int (nI q))]) S.1 S.2.1 d_M_keptMoves_41 rfl hl (by decide) rfl (fun ls hl => ?_)
              refine lv_iinc (v := nI (i + 1)) (lv' := [(3, .int (nI (i + 1))), (2, .int x_4), (0, .ref (ad 0)), (1, .int (nI q))]) S.1 S.2.1 d_M_keptMoves_42 hl (k := 1) rfl (nI_1 i) (by decide) rfl (fun ls hl => ?_)
              refine lv_goto (tgt := 4) S.1 S.2.1 d_M_keptMoves_45 (by decide) ?_
              exact ih _ _ ls hP hS (by rw [show mKm w q (i + 1) = x_4 from by rw [ex_4, mKm, if_pos ⟨c_v, c_w⟩]]; exact lv_sub hl [0, 1, 2, 3] rfl)
  exact L 0 (Nat.zero_le _) _ _ ls hP hS (lv_sub hl [0, 1, 2, 3] rfl)

set_option maxRecDepth 100000 in
set_option maxHeartbeats 4000000 in
theorem c_M_keep {l : Launch} {D : va_G} {ca : Nat → ClassId} {ad : Nat → Nat} (hJ : uJ 22 ad) (w : Nat → Nat → Int32) (q ch : Nat) (hq : q < 40) (hch : ch < 64) : uMv l y_M_keep b_M_keep 3 (none : Option Jvm.ClassFile.FieldType) 1 23 D clsAll (tysAll ca) 22 ad (mG ca ad) w [.ref (ad 0), .int (nI q), .int (nI ch)] (fun u => u = mKp w q ch) := by
  refine uStart (by decide) (Nat.le_of_ble_eq_true rfl) ?_
  intro p e s m below meth c ls S hr hlk hK hN hP hl
  have hU : ∀ w ∈ uWS, w ∈ (Cond.code y_M_keep b_M_keep 3 (none : Option Jvm.ClassFile.FieldType) :: uWS) := fun w h => List.mem_cons_of_mem _ h
  have hS : va_S (uA 22 ad s.heap.size) s.heap s.heap [] := va_S.rf
  have hl : lv_has ls 3 [(0, .ref (ad 0)), (1, .int (nI q)), (2, .int (nI ch))] := hl
  refine lv_aload_n S.1 S.2.1 d_M_keep_0 rfl (lv_at hl 0 rfl) ?_
  refine lv_iload_n S.1 S.2.1 d_M_keep_1 rfl (lv_at hl 1 rfl) ?_
  refine lv_iload_n S.1 S.2.1 d_M_keep_2 rfl (lv_at hl 2 rfl) ?_
  refine uVi (n := 2) (b := 0) (As := [.int (nI q), .int (nI ch)]) (rest := []) S hK hN hP hS (c_M_moveOf hJ w q ch hq hch) ⟨hU, t4_39, t4_36, t1_8, by decide +kernel, by decide, by decide⟩ t4_38 tp_17 (by decide) mg_obj rfl rfl rfl hl.1 rfl (Nat.le_of_ble_eq_true rfl) d_M_keep_3 ⟨Nat.le_of_ble_eq_true rfl, Nat.le_of_ble_eq_true rfl⟩ (fun r u H locs hp hP hS => ?_)
  obtain ⟨hu, rfl⟩ := hp
  rw [hu] at hP
  refine lv_iconst (v := (-1)) S.1 S.2.1 d_M_keep_6 (by decide) ?_
  refine lv_icmp_ne (tgt := 38) S.1 S.2.1 d_M_keep_7 (by decide) (fun c_a => ?_) (fun c_a => ?_)
  · exact uVret S hr hlk w hP hS (by simp [mKp, c_a]) d_M_keep_38
  · refine lv_aload_n S.1 S.2.1 d_M_keep_10 rfl (lv_at hl 0 rfl) ?_
    refine lv_iload_n S.1 S.2.1 d_M_keep_11 rfl (lv_at hl 1 rfl) ?_
    refine lv_iload_n S.1 S.2.1 d_M_keep_12 rfl (lv_at hl 2 rfl) ?_
    refine lv_aload_n S.1 S.2.1 d_M_keep_13 rfl (lv_at hl 0 rfl) ?_
    refine ur_get (k := 0) (v := .ref (ad 11)) S hK hP (by decide) mg_obj rfl (fun w h => hU w (in_M w h)) 11 (by decide) (hU _ t3_171) rfl d_M_keep_14 ?_
    refine lv_iload_n S.1 S.2.1 d_M_keep_17 rfl (lv_at hl 2 rfl) ?_
    refine ur_sald (k := 11) (n := 64) (f := (w 11)) (j := ch) S hK hP (by decide) 4 (mg_arr 11 (by decide)) rfl rfl hch (by decide) d_M_keep_18 ?_
    refine lv_iconst (v := (-1)) S.1 S.2.1 d_M_keep_19 (by decide) ?_
    refine lv_icmp_ne (tgt := 29) S.1 S.2.1 d_M_keep_20 (by decide) (fun c_b => ?_) (fun c_b => ?_)
    · refine lv_aload_n S.1 S.2.1 d_M_keep_29 rfl (lv_at hl 0 rfl) ?_
      refine ur_get (k := 0) (v := .ref (ad 11)) S hK hP (by decide) mg_obj rfl (fun w h => hU w (in_M w h)) 11 (by decide) (hU _ t3_171) rfl d_M_keep_30 ?_
      refine lv_iload_n S.1 S.2.1 d_M_keep_33 rfl (lv_at hl 2 rfl) ?_
      refine ur_sald (k := 11) (n := 64) (f := (w 11)) (j := ch) S hK hP (by decide) 4 (mg_arr 11 (by decide)) rfl rfl hch (by decide) d_M_keep_34 ?_
      refine uVv (n := 3) (b := 0) (As := [.int (nI q), .int (nI ch), .int ((w 11) ch)]) (rest := []) S hK hN hP hS (c_M_put hJ w q ch hq hch ((w 11) ch)) ⟨hU, t4_79, t4_76, t1_8, by decide +kernel, by decide, by decide⟩ t4_78 tp_27 (by decide) mg_obj rfl rfl rfl hl.1 rfl (Nat.le_of_ble_eq_true rfl) d_M_keep_35 ⟨Nat.le_of_ble_eq_true rfl, Nat.le_of_ble_eq_true rfl⟩ (fun u H locs hp hP hS => ?_)
      rw [hp] at hP
      exact uVret S hr hlk (up2 w 10 (64 * q + ch) (s16 ((w 11) ch))) hP hS (by simp [mKp, c_a, c_b]) d_M_keep_38
    · refine lv_sipush (v := 300) S.1 S.2.1 d_M_keep_23 (by decide) ?_
      refine lv_goto (tgt := 35) S.1 S.2.1 d_M_keep_26 (by decide) ?_
      refine uVv (n := 3) (b := 0) (As := [.int (nI q), .int (nI ch), .int 300]) (rest := []) S hK hN hP hS (c_M_put hJ w q ch hq hch 300) ⟨hU, t4_79, t4_76, t1_8, by decide +kernel, by decide, by decide⟩ t4_78 tp_27 (by decide) mg_obj rfl rfl rfl hl.1 rfl (Nat.le_of_ble_eq_true rfl) d_M_keep_35 ⟨Nat.le_of_ble_eq_true rfl, Nat.le_of_ble_eq_true rfl⟩ (fun u H locs hp hP hS => ?_)
      rw [hp] at hP
      exact uVret S hr hlk (up2 w 10 (64 * q + ch) (s16 300)) hP hS (by simp [mKp, c_a, c_b]) d_M_keep_38

set_option maxRecDepth 100000 in
set_option maxHeartbeats 4000000 in
theorem c_M_master {l : Launch} {D : va_G} {ca : Nat → ClassId} {ad : Nat → Nat} (hJ : uJ 22 ad) (w : Nat → Nat → Int32) (x1 x2 : Int32) : uMi l y_M_master b_M_master 3 (some .boolean) 1 20 D clsAll (tysAll ca) 22 ad (mG ca ad) w [.ref (ad 0), .int x1, .int x2] (fun r u => if isPb x1 ∧ isLm x2 then u = up2 (up2 w 0 0 0) 13 x1.toNatClampNeg x2 ∧ r = 1 else u = (up2 w 0 0 0) ∧ r = 0) := by
  refine uStart (by decide) (Nat.le_of_ble_eq_true rfl) ?_
  intro p e s m below meth c ls S hr hlk hK hN hP hl
  have hU : ∀ w ∈ uWS, w ∈ (Cond.code y_M_master b_M_master 3 (some .boolean) :: uWS) := fun w h => List.mem_cons_of_mem _ h
  have hS : va_S (uA 22 ad s.heap.size) s.heap s.heap [] := va_S.rf
  have hl : lv_has ls 3 [(0, .ref (ad 0)), (1, .int x1), (2, .int x2)] := hl
  refine lv_aload_n S.1 S.2.1 d_M_master_0 rfl (lv_at hl 0 rfl) ?_
  refine lv_iconst (v := 0) S.1 S.2.1 d_M_master_1 (by decide) ?_
  refine ur_put (k := 0) (v := .int 0) (g' := mG ca ad (up2 w 0 0 0)) S hK hP (uD _ hJ) hS (by decide) mg_obj rfl (fun w h => hU w (in_M w h)) ty_M tyk_M nm_M 0 (by decide) (hU _ t3_160) rfl rfl rfl (Nat.le_of_ble_eq_true rfl) ms_thr d_M_master_2 (fun H locs hP hS => ?_)
  refine lv_iload_n S.1 S.2.1 d_M_master_5 rfl (lv_at hl 1 rfl) ?_
  refine uSi (n := 1) (As := [.int x1]) (rest := []) S hK hN hP hS (c_M_isPlayback hJ (up2 w 0 0 0) x1) ⟨hU, t4_137, t4_135, t1_8, by decide +kernel, by decide, by decide⟩ t4_136 rfl hl.1 rfl (Nat.le_of_ble_eq_true rfl) d_M_master_6 ⟨Nat.le_of_ble_eq_true rfl, Nat.le_of_ble_eq_true rfl⟩ (fun r u H locs hp hP hS => ?_)
  obtain ⟨hu, rfl⟩ := hp
  rw [hu] at hP
  refine lv_if_eq (tgt := 19) S.1 S.2.1 d_M_master_9 (by decide) (fun c_a => ?_) (fun c_a => ?_)
  · have c_a := pI_no c_a
    refine lv_iconst (v := 0) S.1 S.2.1 d_M_master_19 (by decide) ?_
    exact uZret S hr hlk rfl (up2 w 0 0 0) hP hS (by rw [if_neg (fun z => c_a z.1)]; exact ⟨rfl, rfl⟩) d_M_master_20
  · have c_a := pI_yes c_a
    refine lv_iload_n S.1 S.2.1 d_M_master_12 rfl (lv_at hl 2 rfl) ?_
    refine uSi (n := 1) (As := [.int x2]) (rest := []) S hK hN hP hS (c_M_isLevel hJ (up2 w 0 0 0) x2) ⟨hU, t4_11, t4_9, t1_8, by decide +kernel, by decide, by decide⟩ t4_10 rfl hl.1 rfl (Nat.le_of_ble_eq_true rfl) d_M_master_13 ⟨Nat.le_of_ble_eq_true rfl, Nat.le_of_ble_eq_true rfl⟩ (fun r u H locs hp hP hS => ?_)
    obtain ⟨hu, rfl⟩ := hp
    rw [hu] at hP
    refine lv_if_ne (tgt := 21) S.1 S.2.1 d_M_master_16 (by decide) (fun c_b => ?_) (fun c_b => ?_)
    · have c_b := pI_yes c_b
      obtain ⟨j, hj, ej⟩ := isPb_nat c_a
      subst ej
      refine lv_aload_n S.1 S.2.1 d_M_master_21 rfl (lv_at hl 0 rfl) ?_
      refine ur_get (k := 0) (v := .ref (ad 13)) S hK hP (by decide) mg_obj rfl (fun w h => hU w (in_M w h)) 13 (by decide) (hU _ t3_173) rfl d_M_master_22 ?_
      refine lv_iload_n S.1 S.2.1 d_M_master_25 rfl (lv_at hl 1 rfl) ?_
      refine lv_iload_n S.1 S.2.1 d_M_master_26 rfl (lv_at hl 2 rfl) ?_
      refine ur_iast (k := 13) (n := 6) (f := ((up2 w 0 0 0) 13)) (j := j) (g' := mG ca ad (up2 (up2 w 0 0 0) 13 j x2)) S hK hP (uD _ hJ) hS (by decide) 0 (mg_arr 13 (by decide)) rfl rfl hj (by decide) (ms_arr 13 (by decide) (by decide) (by decide)) d_M_master_27 (fun H locs hP hS => ?_)
      refine lv_iconst (v := 1) S.1 S.2.1 d_M_master_28 (by decide) ?_
      exact uZret S hr hlk rfl (up2 (up2 w 0 0 0) 13 j x2) hP hS (by rw [if_pos ⟨c_a, c_b⟩]; exact ⟨by rw [nI_clamp (by omega)], rfl⟩) d_M_master_29
    · have c_b := pI_no c_b
      refine lv_iconst (v := 0) S.1 S.2.1 d_M_master_19 (by decide) ?_
      exact uZret S hr hlk rfl (up2 w 0 0 0) hP hS (by rw [if_neg (fun z => c_b z.2)]; exact ⟨rfl, rfl⟩) d_M_master_20

set_option maxRecDepth 100000 in
set_option maxHeartbeats 4000000 in
theorem c_M_assign {l : Launch} {D : va_G} {ca : Nat → ClassId} {ad : Nat → Nat} (hJ : uJ 22 ad) (w : Nat → Nat → Int32) (x1 x2 : Int32) : uMi l y_M_assign b_M_assign 3 (some .boolean) 1 20 D clsAll (tysAll ca) 22 ad (mG ca ad) w [.ref (ad 0), .int x1, .int x2] (fun r u => if isPb x1 ∧ ¬ x2 < 0 ∧ ¬ 3 < x2 ∧ w 15 x1.toNatClampNeg = -1 then u = up2 (up2 w 0 0 0) 12 x1.toNatClampNeg x2 ∧ r = 1 else u = (up2 w 0 0 0) ∧ r = 0) := by
  refine uStart (by decide) (Nat.le_of_ble_eq_true rfl) ?_
  intro p e s m below meth c ls S hr hlk hK hN hP hl
  have hU : ∀ w ∈ uWS, w ∈ (Cond.code y_M_assign b_M_assign 3 (some .boolean) :: uWS) := fun w h => List.mem_cons_of_mem _ h
  have hS : va_S (uA 22 ad s.heap.size) s.heap s.heap [] := va_S.rf
  have hl : lv_has ls 3 [(0, .ref (ad 0)), (1, .int x1), (2, .int x2)] := hl
  refine lv_aload_n S.1 S.2.1 d_M_assign_0 rfl (lv_at hl 0 rfl) ?_
  refine lv_iconst (v := 0) S.1 S.2.1 d_M_assign_1 (by decide) ?_
  refine ur_put (k := 0) (v := .int 0) (g' := mG ca ad (up2 w 0 0 0)) S hK hP (uD _ hJ) hS (by decide) mg_obj rfl (fun w h => hU w (in_M w h)) ty_M tyk_M nm_M 0 (by decide) (hU _ t3_160) rfl rfl rfl (Nat.le_of_ble_eq_true rfl) ms_thr d_M_assign_2 (fun H locs hP hS => ?_)
  refine lv_iload_n S.1 S.2.1 d_M_assign_5 rfl (lv_at hl 1 rfl) ?_
  refine uSi (n := 1) (As := [.int x1]) (rest := []) S hK hN hP hS (c_M_isPlayback hJ (up2 w 0 0 0) x1) ⟨hU, t4_137, t4_135, t1_8, by decide +kernel, by decide, by decide⟩ t4_136 rfl hl.1 rfl (Nat.le_of_ble_eq_true rfl) d_M_assign_6 ⟨Nat.le_of_ble_eq_true rfl, Nat.le_of_ble_eq_true rfl⟩ (fun r u H locs hp hP hS => ?_)
  obtain ⟨hu, rfl⟩ := hp
  rw [hu] at hP
  refine lv_if_eq (tgt := 31) S.1 S.2.1 d_M_assign_9 (by decide) (fun c_a => ?_) (fun c_a => ?_)
  · have c_a := pI_no c_a
    refine lv_iconst (v := 0) S.1 S.2.1 d_M_assign_31 (by decide) ?_
    exact uZret S hr hlk rfl (up2 w 0 0 0) hP hS (by rw [if_neg (fun z => c_a z.1)]; exact ⟨rfl, rfl⟩) d_M_assign_32
  · have c_a := pI_yes c_a
    refine lv_iload_n S.1 S.2.1 d_M_assign_12 rfl (lv_at hl 2 rfl) ?_
    refine lv_if_lt (tgt := 31) S.1 S.2.1 d_M_assign_13 (by decide) (fun c_b => ?_) (fun c_b => ?_)
    · refine lv_iconst (v := 0) S.1 S.2.1 d_M_assign_31 (by decide) ?_
      exact uZret S hr hlk rfl (up2 w 0 0 0) hP hS (by rw [if_neg (fun z => z.2.1 c_b)]; exact ⟨rfl, rfl⟩) d_M_assign_32
    · refine lv_iload_n S.1 S.2.1 d_M_assign_16 rfl (lv_at hl 2 rfl) ?_
      refine lv_iconst (v := 3) S.1 S.2.1 d_M_assign_17 (by decide) ?_
      refine lv_icmp_gt (tgt := 31) S.1 S.2.1 d_M_assign_18 (by decide) (fun c_c => ?_) (fun c_c => ?_)
      · refine lv_iconst (v := 0) S.1 S.2.1 d_M_assign_31 (by decide) ?_
        exact uZret S hr hlk rfl (up2 w 0 0 0) hP hS (by rw [if_neg (fun z => z.2.2.1 c_c)]; exact ⟨rfl, rfl⟩) d_M_assign_32
      · obtain ⟨j, hj, ej⟩ := isPb_nat c_a
        subst ej
        refine lv_aload_n S.1 S.2.1 d_M_assign_21 rfl (lv_at hl 0 rfl) ?_
        refine ur_get (k := 0) (v := .ref (ad 15)) S hK hP (by decide) mg_obj rfl (fun w h => hU w (in_M w h)) 15 (by decide) (hU _ t3_175) rfl d_M_assign_22 ?_
        refine lv_iload_n S.1 S.2.1 d_M_assign_25 rfl (lv_at hl 1 rfl) ?_
        refine ur_iald (k := 15) (n := 6) (f := ((up2 w 0 0 0) 15)) (j := j) S hK hP (by decide) 0 (mg_arr 15 (by decide)) rfl rfl hj (by decide) d_M_assign_26 ?_
        refine lv_iconst (v := (-1)) S.1 S.2.1 d_M_assign_27 (by decide) ?_
        refine lv_icmp_eq (tgt := 33) S.1 S.2.1 d_M_assign_28 (by decide) (fun c_s => ?_) (fun c_s => ?_)
        · refine lv_aload_n S.1 S.2.1 d_M_assign_33 rfl (lv_at hl 0 rfl) ?_
          refine ur_get (k := 0) (v := .ref (ad 12)) S hK hP (by decide) mg_obj rfl (fun w h => hU w (in_M w h)) 12 (by decide) (hU _ t3_172) rfl d_M_assign_34 ?_
          refine lv_iload_n S.1 S.2.1 d_M_assign_37 rfl (lv_at hl 1 rfl) ?_
          refine lv_iload_n S.1 S.2.1 d_M_assign_38 rfl (lv_at hl 2 rfl) ?_
          refine ur_iast (k := 12) (n := 6) (f := ((up2 w 0 0 0) 12)) (j := j) (g' := mG ca ad (up2 (up2 w 0 0 0) 12 j x2)) S hK hP (uD _ hJ) hS (by decide) 0 (mg_arr 12 (by decide)) rfl rfl hj (by decide) (ms_arr 12 (by decide) (by decide) (by decide)) d_M_assign_39 (fun H locs hP hS => ?_)
          refine lv_iconst (v := 1) S.1 S.2.1 d_M_assign_40 (by decide) ?_
          exact uZret S hr hlk rfl (up2 (up2 w 0 0 0) 12 j x2) hP hS (by rw [nI_clamp (by omega), if_pos ⟨c_a, c_b, c_c, by simpa [up2] using c_s⟩]; exact ⟨rfl, rfl⟩) d_M_assign_41
        · refine lv_iconst (v := 0) S.1 S.2.1 d_M_assign_31 (by decide) ?_
          exact uZret S hr hlk rfl (up2 w 0 0 0) hP hS (by rw [nI_clamp (by omega), if_neg (fun z => c_s (by simpa [up2] using z.2.2.2))]; exact ⟨rfl, rfl⟩) d_M_assign_32

set_option maxRecDepth 100000 in
set_option maxHeartbeats 4000000 in
theorem c_M_isTick {l : Launch} {D : va_G} {ca : Nat → ClassId} {ad : Nat → Nat} (hJ : uJ 22 ad) (w : Nat → Nat → Int32) (x1 : Int32) : uMi l y_M_isTick b_M_isTick 2 (some .boolean) 0 0 D clsAll (tysAll ca) 22 ad (mG ca ad) w [.ref (ad 0), .int x1] (fun r u => u = w ∧ r = pI (¬ x1 < w 22 0 ∧ ¬ 1000000000 < x1)) := by
  refine uStart (by decide) (Nat.le_of_ble_eq_true rfl) ?_
  intro p e s m below meth c ls S hr hlk hK hN hP hl
  have hU : ∀ w ∈ uWS, w ∈ (Cond.code y_M_isTick b_M_isTick 2 (some .boolean) :: uWS) := fun w h => List.mem_cons_of_mem _ h
  have hS : va_S (uA 22 ad s.heap.size) s.heap s.heap [] := va_S.rf
  have hl : lv_has ls 2 [(0, .ref (ad 0)), (1, .int x1)] := hl
  refine lv_iload_n S.1 S.2.1 d_M_isTick_0 rfl (lv_at hl 1 rfl) ?_
  refine lv_aload_n S.1 S.2.1 d_M_isTick_1 rfl (lv_at hl 0 rfl) ?_
  refine ur_get (k := 0) (v := .int (w 22 0)) S hK hP (by decide) mg_obj rfl (fun w h => hU w (in_M w h)) 22 (by decide) (hU _ t3_182) rfl d_M_isTick_2 ?_
  refine lv_icmp_lt (tgt := 18) S.1 S.2.1 d_M_isTick_5 (by decide) (fun c_1 => ?_) (fun c_1 => ?_)
  · refine lv_iconst (v := 0) S.1 S.2.1 d_M_isTick_18 (by decide) ?_
    exact uZret S hr hlk rfl w hP hS (by refine ⟨rfl, ?_⟩; simp [pI, c_1]) d_M_isTick_19
  · refine lv_iload_n S.1 S.2.1 d_M_isTick_8 rfl (lv_at hl 1 rfl) ?_
    refine lv_ldc (v := 1000000000) S.1 S.2.1 S.2.2.2.1 (S.2.2.2.2 _ (hU _ t4_146)) d_M_isTick_9 ?_
    refine lv_icmp_gt (tgt := 18) S.1 S.2.1 d_M_isTick_11 (by decide) (fun c_2 => ?_) (fun c_2 => ?_)
    · refine lv_iconst (v := 0) S.1 S.2.1 d_M_isTick_18 (by decide) ?_
      exact uZret S hr hlk rfl w hP hS (by refine ⟨rfl, ?_⟩; simp [pI, c_1, c_2]) d_M_isTick_19
    · refine lv_iconst (v := 1) S.1 S.2.1 d_M_isTick_14 (by decide) ?_
      refine lv_goto (tgt := 19) S.1 S.2.1 d_M_isTick_15 (by decide) ?_
      exact uZret S hr hlk rfl w hP hS (by refine ⟨rfl, ?_⟩; simp [pI, c_1, c_2]) d_M_isTick_19

set_option maxRecDepth 100000 in
set_option maxHeartbeats 4000000 in
theorem c_M_levelAt {l : Launch} {D : va_G} {ca : Nat → ClassId} {ad : Nat → Nat} (hJ : uJ 22 ad) (w : Nat → Nat → Int32) (j ch : Nat) (hj : j < 6) (hch : ch < 64) (x : Int32) (hov : w 19 (64 * j + ch) ≤ x → ¬ x - w 19 (64 * j + ch) < 0) : uMi l y_M_levelAt b_M_levelAt 5 (some .int) 0 0 D clsAll (tysAll ca) 22 ad (mG ca ad) w [.ref (ad 0), .int (nI j), .int (nI ch), .int x] (fun r u => u = w ∧ r = mAt w (64 * j + ch) x) := by
  refine uStart (by decide) (Nat.le_of_ble_eq_true rfl) ?_
  intro p e s m below meth c ls S hr hlk hK hN hP hl
  have hU : ∀ w ∈ uWS, w ∈ (Cond.code y_M_levelAt b_M_levelAt 5 (some .int) :: uWS) := fun w h => List.mem_cons_of_mem _ h
  have hS : va_S (uA 22 ad s.heap.size) s.heap s.heap [] := va_S.rf
  have hl : lv_has ls 5 [(0, .ref (ad 0)), (1, .int (nI j)), (2, .int (nI ch)), (3, .int x)] := hl
  refine lv_bipush (v := 64) S.1 S.2.1 d_M_levelAt_0 (by decide) ?_
  refine lv_iload_n S.1 S.2.1 d_M_levelAt_2 rfl (lv_at hl 1 rfl) ?_
  refine lv_imul S.1 S.2.1 d_M_levelAt_3 ?_
  refine lv_iload_n S.1 S.2.1 d_M_levelAt_4 rfl (lv_at hl 2 rfl) ?_
  refine lv_iadd S.1 S.2.1 d_M_levelAt_5 ?_
  rw [ix64 j ch]
  refine lv_istore (lv' := [(4, .int (nI (64 * j + ch))), (0, .ref (ad 0)), (1, .int (nI j)), (2, .int (nI ch)), (3, .int x)]) S.1 S.2.1 d_M_levelAt_6 hl (by decide) rfl (fun ls hl => ?_)
  refine lv_iload_n S.1 S.2.1 d_M_levelAt_8 rfl (lv_at hl 4 rfl) ?_
  refine lv_aload_n S.1 S.2.1 d_M_levelAt_9 rfl (lv_at hl 1 rfl) ?_
  refine ur_get (k := 0) (v := .ref (ad 19)) S hK hP (by decide) mg_obj rfl (fun w h => hU w (in_M w h)) 19 (by decide) (hU _ t3_179) rfl d_M_levelAt_10 ?_
  refine lv_iload S.1 S.2.1 d_M_levelAt_13 (lv_at hl 0 rfl) ?_
  refine ur_iald (k := 19) (n := 384) (f := (w 19)) (j := (64 * j + ch)) S hK hP (by decide) 0 (mg_arr 19 (by decide)) rfl rfl (by omega) (by decide) d_M_levelAt_15 ?_
  refine lv_icmp_ge (tgt := 27) S.1 S.2.1 d_M_levelAt_16 (by decide) (fun c_1 => ?_) (fun c_1 => ?_)
  · refine lv_iload_n S.1 S.2.1 d_M_levelAt_27 rfl (lv_at hl 4 rfl) ?_
    refine lv_aload_n S.1 S.2.1 d_M_levelAt_28 rfl (lv_at hl 1 rfl) ?_
    refine ur_get (k := 0) (v := .ref (ad 19)) S hK hP (by decide) mg_obj rfl (fun w h => hU w (in_M w h)) 19 (by decide) (hU _ t3_179) rfl d_M_levelAt_29 ?_
    refine lv_iload S.1 S.2.1 d_M_levelAt_32 (lv_at hl 0 rfl) ?_
    refine ur_iald (k := 19) (n := 384) (f := (w 19)) (j := (64 * j + ch)) S hK hP (by decide) 0 (mg_arr 19 (by decide)) rfl rfl (by omega) (by decide) d_M_levelAt_34 ?_
    refine lv_isub S.1 S.2.1 d_M_levelAt_35 ?_
    refine lv_aload_n S.1 S.2.1 d_M_levelAt_36 rfl (lv_at hl 1 rfl) ?_
    refine ur_get (k := 0) (v := .ref (ad 20)) S hK hP (by decide) mg_obj rfl (fun w h => hU w (in_M w h)) 20 (by decide) (hU _ t3_180) rfl d_M_levelAt_37 ?_
    refine lv_iload S.1 S.2.1 d_M_levelAt_40 (lv_at hl 0 rfl) ?_
    refine ur_iald (k := 20) (n := 384) (f := (w 20)) (j := (64 * j + ch)) S hK hP (by decide) 0 (mg_arr 20 (by decide)) rfl rfl (by omega) (by decide) d_M_levelAt_42 ?_
    refine lv_icmp_lt (tgt := 54) S.1 S.2.1 d_M_levelAt_43 (by decide) (fun c_2 => ?_) (fun c_2 => ?_)
    · refine lv_aload_n S.1 S.2.1 d_M_levelAt_54 rfl (lv_at hl 1 rfl) ?_
      refine ur_get (k := 0) (v := .ref (ad 17)) S hK hP (by decide) mg_obj rfl (fun w h => hU w (in_M w h)) 17 (by decide) (hU _ t3_177) rfl d_M_levelAt_55 ?_
      refine lv_iload S.1 S.2.1 d_M_levelAt_58 (lv_at hl 0 rfl) ?_
      refine ur_sald (k := 17) (n := 384) (f := (w 17)) (j := (64 * j + ch)) S hK hP (by decide) 4 (mg_arr 17 (by decide)) rfl rfl (by omega) (by decide) d_M_levelAt_60 ?_
      refine lv_aload_n S.1 S.2.1 d_M_levelAt_61 rfl (lv_at hl 1 rfl) ?_
      refine ur_get (k := 0) (v := .ref (ad 18)) S hK hP (by decide) mg_obj rfl (fun w h => hU w (in_M w h)) 18 (by decide) (hU _ t3_178) rfl d_M_levelAt_62 ?_
      refine lv_iload S.1 S.2.1 d_M_levelAt_65 (lv_at hl 0 rfl) ?_
      refine ur_sald (k := 18) (n := 384) (f := (w 18)) (j := (64 * j + ch)) S hK hP (by decide) 4 (mg_arr 18 (by decide)) rfl rfl (by omega) (by decide) d_M_levelAt_67 ?_
      refine lv_aload_n S.1 S.2.1 d_M_levelAt_68 rfl (lv_at hl 1 rfl) ?_
      refine ur_get (k := 0) (v := .ref (ad 17)) S hK hP (by decide) mg_obj rfl (fun w h => hU w (in_M w h)) 17 (by decide) (hU _ t3_177) rfl d_M_levelAt_69 ?_
      refine lv_iload S.1 S.2.1 d_M_levelAt_72 (lv_at hl 0 rfl) ?_
      refine ur_sald (k := 17) (n := 384) (f := (w 17)) (j := (64 * j + ch)) S hK hP (by decide) 4 (mg_arr 17 (by decide)) rfl rfl (by omega) (by decide) d_M_levelAt_74 ?_
      refine lv_isub S.1 S.2.1 d_M_levelAt_75 ?_
      refine lv_iload_n S.1 S.2.1 d_M_levelAt_76 rfl (lv_at hl 4 rfl) ?_
      refine lv_aload_n S.1 S.2.1 d_M_levelAt_77 rfl (lv_at hl 1 rfl) ?_
      refine ur_get (k := 0) (v := .ref (ad 19)) S hK hP (by decide) mg_obj rfl (fun w h => hU w (in_M w h)) 19 (by decide) (hU _ t3_179) rfl d_M_levelAt_78 ?_
      refine lv_iload S.1 S.2.1 d_M_levelAt_81 (lv_at hl 0 rfl) ?_
      refine ur_iald (k := 19) (n := 384) (f := (w 19)) (j := (64 * j + ch)) S hK hP (by decide) 0 (mg_arr 19 (by decide)) rfl rfl (by omega) (by decide) d_M_levelAt_83 ?_
      refine lv_isub S.1 S.2.1 d_M_levelAt_84 ?_
      refine lv_imul S.1 S.2.1 d_M_levelAt_85 ?_
      refine lv_aload_n S.1 S.2.1 d_M_levelAt_86 rfl (lv_at hl 1 rfl) ?_
      refine ur_get (k := 0) (v := .ref (ad 20)) S hK hP (by decide) mg_obj rfl (fun w h => hU w (in_M w h)) 20 (by decide) (hU _ t3_180) rfl d_M_levelAt_87 ?_
      refine lv_iload S.1 S.2.1 d_M_levelAt_90 (lv_at hl 0 rfl) ?_
      refine ur_iald (k := 20) (n := 384) (f := (w 20)) (j := (64 * j + ch)) S hK hP (by decide) 0 (mg_arr 20 (by decide)) rfl rfl (by omega) (by decide) d_M_levelAt_92 ?_
      refine lv_idiv S.1 S.2.1 d_M_levelAt_93 (fun h0 => by rw [h0] at c_2; exact hov c_1 c_2) ?_
      refine lv_iadd S.1 S.2.1 d_M_levelAt_94 ?_
      exact uIret S hr hlk w hP hS (by refine ⟨rfl, ?_⟩; simp [mAt, mFade, c_1, c_2]) d_M_levelAt_95
    · refine lv_aload_n S.1 S.2.1 d_M_levelAt_46 rfl (lv_at hl 1 rfl) ?_
      refine ur_get (k := 0) (v := .ref (ad 18)) S hK hP (by decide) mg_obj rfl (fun w h => hU w (in_M w h)) 18 (by decide) (hU _ t3_178) rfl d_M_levelAt_47 ?_
      refine lv_iload S.1 S.2.1 d_M_levelAt_50 (lv_at hl 0 rfl) ?_
      refine ur_sald (k := 18) (n := 384) (f := (w 18)) (j := (64 * j + ch)) S hK hP (by decide) 4 (mg_arr 18 (by decide)) rfl rfl (by omega) (by decide) d_M_levelAt_52 ?_
      exact uIret S hr hlk w hP hS (by refine ⟨rfl, ?_⟩; simp [mAt, mFade, c_1, c_2]) d_M_levelAt_53
  · refine lv_aload_n S.1 S.2.1 d_M_levelAt_19 rfl (lv_at hl 1 rfl) ?_
    refine ur_get (k := 0) (v := .ref (ad 17)) S hK hP (by decide) mg_obj rfl (fun w h => hU w (in_M w h)) 17 (by decide) (hU _ t3_177) rfl d_M_levelAt_20 ?_
    refine lv_iload S.1 S.2.1 d_M_levelAt_23 (lv_at hl 0 rfl) ?_
    refine ur_sald (k := 17) (n := 384) (f := (w 17)) (j := (64 * j + ch)) S hK hP (by decide) 4 (mg_arr 17 (by decide)) rfl rfl (by omega) (by decide) d_M_levelAt_25 ?_
    exact uIret S hr hlk w hP hS (by refine ⟨rfl, ?_⟩; simp [mAt, mFade, c_1]) d_M_levelAt_26

set_option maxRecDepth 100000 in
set_option maxHeartbeats 4000000 in
theorem c_M_release {l : Launch} {D : va_G} {ca : Nat → ClassId} {ad : Nat → Nat} (hJ : uJ 22 ad) (w : Nat → Nat → Int32) (M : Nat) (hM : M = 64) (x1 : Int32) : uMi l y_M_release b_M_release 4 (some .int) 0 0 D clsAll (tysAll ca) 22 ad (mG ca ad) w [.ref (ad 0), .int x1] (fun r u => u = mRl (up2 w 0 0 0) x1 M ∧ r = mRc (up2 w 0 0 0) x1 M) := by
  refine uStart (by decide) (Nat.le_of_ble_eq_true rfl) ?_
  intro p e s m below meth c ls S hr hlk hK hN hP hl
  have hU : ∀ w ∈ uWS, w ∈ (Cond.code y_M_release b_M_release 4 (some .int) :: uWS) := fun w h => List.mem_cons_of_mem _ h
  have hS : va_S (uA 22 ad s.heap.size) s.heap s.heap [] := va_S.rf
  have hl : lv_has ls 4 [(0, .ref (ad 0)), (1, .int x1)] := hl
  refine lv_aload_n S.1 S.2.1 d_M_release_0 rfl (lv_at hl 0 rfl) ?_
  refine lv_iconst (v := 0) S.1 S.2.1 d_M_release_1 (by decide) ?_
  refine ur_put (k := 0) (v := .int 0) (g' := mG ca ad (up2 w 0 0 0)) S hK hP (uD _ hJ) hS (by decide) mg_obj rfl (fun w h => hU w (in_M w h)) ty_M tyk_M nm_M 0 (by decide) (hU _ t3_160) rfl rfl rfl (Nat.le_of_ble_eq_true rfl) ms_thr d_M_release_2 (fun H locs hP hS => ?_)
  refine lv_iconst (v := 0) S.1 S.2.1 d_M_release_5 (by decide) ?_
  refine lv_istore_n (lv' := [(2, .int 0), (0, .ref (ad 0)), (1, .int x1)]) S.1 S.2.1 d_M_release_6 rfl hl (by decide) rfl (fun ls hl => ?_)
  refine lv_iconst (v := 0) S.1 S.2.1 d_M_release_7 (by decide) ?_
  refine lv_istore_n (lv' := [(3, .int 0), (2, .int 0), (0, .ref (ad 0)), (1, .int x1)]) S.1 S.2.1 d_M_release_8 rfl hl (by decide) rfl (fun ls hl => ?_)
  have L : ∀ i, i ≤ M → ∀ (H : Heap) (locs : List Loc) (ls : Array Slot), va_P D clsAll (uw 22 ad (mG ca ad (mRl (up2 w 0 0 0) x1 i))) H → va_S (uA 22 ad s.heap.size) s.heap H locs → lv_has ls 4 [(3, .int (nI i)), (2, .int (mRc (up2 w 0 0 0) x1 i)), (0, .ref (ad 0)), (1, .int x1)] → uGi 0 0 D clsAll 22 ad (mG ca ad) (fun r u => u = mRl (up2 w 0 0 0) x1 M ∧ r = mRc (up2 w 0 0 0) x1 M) [.ref (ad 0), .int x1] p l e s m below meth c H locs 9 ls [] := by
    refine upTo M ?_ ?_
    · intro H locs ls hP hS hl
      refine lv_iload_n S.1 S.2.1 d_M_release_9 rfl (lv_at hl 0 rfl) ?_
      refine lv_bipush (v := 64) S.1 S.2.1 d_M_release_10 (by decide) ?_
      refine lv_icmp_ge (tgt := 51) S.1 S.2.1 d_M_release_12 (by decide) (fun c_h => ?_) (fun c_h => ?_)
      · refine lv_iload_n S.1 S.2.1 d_M_release_51 rfl (lv_at hl 1 rfl) ?_
        exact uIret S hr hlk (mRl (up2 w 0 0 0) x1 M) hP hS (⟨rfl, rfl⟩) d_M_release_52
      · exact absurd (by subst hM; exact nI_le (Nat.le_refl 64) (by decide)) c_h
    · intro i hi ih H locs ls hP hS hl
      refine lv_iload_n S.1 S.2.1 d_M_release_9 rfl (lv_at hl 0 rfl) ?_
      refine lv_bipush (v := 64) S.1 S.2.1 d_M_release_10 (by decide) ?_
      refine lv_icmp_ge (tgt := 51) S.1 S.2.1 d_M_release_12 (by decide) (fun c_h => ?_) (fun c_h => ?_)
      · exact absurd c_h (nI_ge (b := 64) (by omega) (by decide))
      · refine lv_iload_n S.1 S.2.1 d_M_release_15 rfl (lv_at hl 3 rfl) ?_
        refine lv_iconst (v := (-1)) S.1 S.2.1 d_M_release_16 (by decide) ?_
        refine lv_icmp_eq (tgt := 25) S.1 S.2.1 d_M_release_17 (by decide) (fun c_1 => ?_) (fun c_1 => ?_)
        · refine lv_aload_n S.1 S.2.1 d_M_release_25 rfl (lv_at hl 2 rfl) ?_
          refine ur_get (k := 0) (v := .ref (ad 2)) S hK hP (by decide) mg_obj rfl (fun w h => hU w (in_M w h)) 2 (by decide) (hU _ t3_162) rfl d_M_release_26 ?_
          refine lv_iload_n S.1 S.2.1 d_M_release_29 rfl (lv_at hl 0 rfl) ?_
          refine ur_sald (k := 2) (n := 64) (f := ((mRl (up2 w 0 0 0) x1 i) 2)) (j := i) S hK hP (by decide) 4 (mg_arr 2 (by decide)) rfl rfl (by omega) (by decide) d_M_release_30 ?_
          refine lv_iconst (v := (-1)) S.1 S.2.1 d_M_release_31 (by decide) ?_
          refine lv_icmp_eq (tgt := 45) S.1 S.2.1 d_M_release_32 (by decide) (fun c_3 => ?_) (fun c_3 => ?_)
          · refine lv_iinc (v := nI (i + 1)) (lv' := [(3, .int (nI (i + 1))), (2, .int (mRc (up2 w 0 0 0) x1 i)), (0, .ref (ad 0)), (1, .int x1)]) S.1 S.2.1 d_M_release_45 hl (k := 0) rfl (nI_1 i) (by decide) rfl (fun ls hl => ?_)
            refine lv_goto (tgt := 9) S.1 S.2.1 d_M_release_48 (by decide) ?_
            exact ih _ _ ls (by rw [mRl, if_neg (fun z => z.2 c_3)]; exact hP) hS (by rw [show mRc (up2 w 0 0 0) x1 (i + 1) = mRc (up2 w 0 0 0) x1 i from by rw [mRc, if_neg (fun z => z.2 c_3)]]; exact lv_sub hl [0, 1, 2, 3] rfl)
          · refine lv_aload_n S.1 S.2.1 d_M_release_35 rfl (lv_at hl 2 rfl) ?_
            refine ur_get (k := 0) (v := .ref (ad 2)) S hK hP (by decide) mg_obj rfl (fun w h => hU w (in_M w h)) 2 (by decide) (hU _ t3_162) rfl d_M_release_36 ?_
            refine lv_iload_n S.1 S.2.1 d_M_release_39 rfl (lv_at hl 0 rfl) ?_
            refine lv_iconst (v := (-1)) S.1 S.2.1 d_M_release_40 (by decide) ?_
            refine ur_sast (k := 2) (n := 64) (f := ((mRl (up2 w 0 0 0) x1 i) 2)) (j := i) (g' := mG ca ad (up2 (mRl (up2 w 0 0 0) x1 i) 2 i (-1))) S hK hP (uD _ hJ) hS (by decide) 4 (mg_arr 2 (by decide)) rfl rfl (by omega) (by decide) (by decide) (ms_arr 2 (by decide) (by decide) (by decide)) d_M_release_41 (fun H locs hP hS => ?_)
            obtain ⟨x_1, ex_1⟩ : ∃ y : Int32, y = mRc (up2 w 0 0 0) x1 i + 1 := ⟨_, rfl⟩
            refine lv_iinc (v := x_1) (lv' := [(2, .int x_1), (3, .int (nI i)), (0, .ref (ad 0)), (1, .int x1)]) S.1 S.2.1 d_M_release_42 hl (k := 1) rfl (by rw [ex_1]; rfl) (by decide) rfl (fun ls hl => ?_)
            refine lv_iinc (v := nI (i + 1)) (lv' := [(3, .int (nI (i + 1))), (2, .int x_1), (0, .ref (ad 0)), (1, .int x1)]) S.1 S.2.1 d_M_release_45 hl (k := 1) rfl (nI_1 i) (by decide) rfl (fun ls hl => ?_)
            refine lv_goto (tgt := 9) S.1 S.2.1 d_M_release_48 (by decide) ?_
            exact ih _ _ ls (by rw [mRl, if_pos ⟨Or.inl c_1, c_3⟩]; exact hP) hS (by rw [show mRc (up2 w 0 0 0) x1 (i + 1) = x_1 from by rw [ex_1, mRc, if_pos ⟨Or.inl c_1, c_3⟩]]; exact lv_sub hl [0, 1, 2, 3] rfl)
        · refine lv_iload_n S.1 S.2.1 d_M_release_20 rfl (lv_at hl 3 rfl) ?_
          refine lv_iload_n S.1 S.2.1 d_M_release_21 rfl (lv_at hl 0 rfl) ?_
          refine lv_icmp_ne (tgt := 45) S.1 S.2.1 d_M_release_22 (by decide) (fun c_2 => ?_) (fun c_2 => ?_)
          · refine lv_iinc (v := nI (i + 1)) (lv' := [(3, .int (nI (i + 1))), (2, .int (mRc (up2 w 0 0 0) x1 i)), (0, .ref (ad 0)), (1, .int x1)]) S.1 S.2.1 d_M_release_45 hl (k := 0) rfl (nI_1 i) (by decide) rfl (fun ls hl => ?_)
            refine lv_goto (tgt := 9) S.1 S.2.1 d_M_release_48 (by decide) ?_
            exact ih _ _ ls (by rw [mRl, if_neg (fun z => z.1.elim c_1 c_2)]; exact hP) hS (by rw [show mRc (up2 w 0 0 0) x1 (i + 1) = mRc (up2 w 0 0 0) x1 i from by rw [mRc, if_neg (fun z => z.1.elim c_1 c_2)]]; exact lv_sub hl [0, 1, 2, 3] rfl)
          · refine lv_aload_n S.1 S.2.1 d_M_release_25 rfl (lv_at hl 2 rfl) ?_
            refine ur_get (k := 0) (v := .ref (ad 2)) S hK hP (by decide) mg_obj rfl (fun w h => hU w (in_M w h)) 2 (by decide) (hU _ t3_162) rfl d_M_release_26 ?_
            refine lv_iload_n S.1 S.2.1 d_M_release_29 rfl (lv_at hl 0 rfl) ?_
            refine ur_sald (k := 2) (n := 64) (f := ((mRl (up2 w 0 0 0) x1 i) 2)) (j := i) S hK hP (by decide) 4 (mg_arr 2 (by decide)) rfl rfl (by omega) (by decide) d_M_release_30 ?_
            refine lv_iconst (v := (-1)) S.1 S.2.1 d_M_release_31 (by decide) ?_
            refine lv_icmp_eq (tgt := 45) S.1 S.2.1 d_M_release_32 (by decide) (fun c_3 => ?_) (fun c_3 => ?_)
            · refine lv_iinc (v := nI (i + 1)) (lv' := [(3, .int (nI (i + 1))), (2, .int (mRc (up2 w 0 0 0) x1 i)), (0, .ref (ad 0)), (1, .int x1)]) S.1 S.2.1 d_M_release_45 hl (k := 0) rfl (nI_1 i) (by decide) rfl (fun ls hl => ?_)
              refine lv_goto (tgt := 9) S.1 S.2.1 d_M_release_48 (by decide) ?_
              exact ih _ _ ls (by rw [mRl, if_neg (fun z => z.2 c_3)]; exact hP) hS (by rw [show mRc (up2 w 0 0 0) x1 (i + 1) = mRc (up2 w 0 0 0) x1 i from by rw [mRc, if_neg (fun z => z.2 c_3)]]; exact lv_sub hl [0, 1, 2, 3] rfl)
            · refine lv_aload_n S.1 S.2.1 d_M_release_35 rfl (lv_at hl 2 rfl) ?_
              refine ur_get (k := 0) (v := .ref (ad 2)) S hK hP (by decide) mg_obj rfl (fun w h => hU w (in_M w h)) 2 (by decide) (hU _ t3_162) rfl d_M_release_36 ?_
              refine lv_iload_n S.1 S.2.1 d_M_release_39 rfl (lv_at hl 0 rfl) ?_
              refine lv_iconst (v := (-1)) S.1 S.2.1 d_M_release_40 (by decide) ?_
              refine ur_sast (k := 2) (n := 64) (f := ((mRl (up2 w 0 0 0) x1 i) 2)) (j := i) (g' := mG ca ad (up2 (mRl (up2 w 0 0 0) x1 i) 2 i (-1))) S hK hP (uD _ hJ) hS (by decide) 4 (mg_arr 2 (by decide)) rfl rfl (by omega) (by decide) (by decide) (ms_arr 2 (by decide) (by decide) (by decide)) d_M_release_41 (fun H locs hP hS => ?_)
              obtain ⟨x_2, ex_2⟩ : ∃ y : Int32, y = mRc (up2 w 0 0 0) x1 i + 1 := ⟨_, rfl⟩
              refine lv_iinc (v := x_2) (lv' := [(2, .int x_2), (3, .int (nI i)), (0, .ref (ad 0)), (1, .int x1)]) S.1 S.2.1 d_M_release_42 hl (k := 1) rfl (by rw [ex_2]; rfl) (by decide) rfl (fun ls hl => ?_)
              refine lv_iinc (v := nI (i + 1)) (lv' := [(3, .int (nI (i + 1))), (2, .int x_2), (0, .ref (ad 0)), (1, .int x1)]) S.1 S.2.1 d_M_release_45 hl (k := 1) rfl (nI_1 i) (by decide) rfl (fun ls hl => ?_)
              refine lv_goto (tgt := 9) S.1 S.2.1 d_M_release_48 (by decide) ?_
              exact ih _ _ ls (by rw [mRl, if_pos ⟨Or.inr c_2, c_3⟩]; exact hP) hS (by rw [show mRc (up2 w 0 0 0) x1 (i + 1) = x_2 from by rw [ex_2, mRc, if_pos ⟨Or.inr c_2, c_3⟩]]; exact lv_sub hl [0, 1, 2, 3] rfl)
  exact L 0 (Nat.zero_le _) _ _ ls hP hS (lv_sub hl [0, 1, 2, 3] rfl)
