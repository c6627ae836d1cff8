/-! The desk: starting, telling, merging (printed by wip/gen/gen_x9.py) -/
set_option maxRecDepth 100000 in
set_option maxHeartbeats 4000000 in
theorem c_D_startCue {l : Launch} {D : va_G} {ca : Nat → ClassId} {ad : Nat → Nat} (hJ : uJ 165 ad) (v : Nat → Nat → Nat → Int32) (π : Nat → Nat) (M : Nat) (hM : M = 64) (n : Nat) (hB : xBk v π n) (j q : Nat) (hj : j < 6) (hq : q < n) (t : Int32) : uMv l y_D_startCue b_D_startCue 7 (none : Option Jvm.ClassFile.FieldType) 3 68 D clsAll (tysAll ca) 165 ad (xG ca ad) (v, π) [.ref (ad 0), .ref (ad (129 + 6 * j)), .int (nI q), .int t] (fun u => u = (vStart v π j q t M, π)) := by
  refine uStart (by decide) (Nat.le_of_ble_eq_true rfl) ?_
  intro p e s m below meth c ls S hr hlk hK hN hP hl
  have hU : ∀ w ∈ uWS, w ∈ (Cond.code y_D_startCue b_D_startCue 7 (none : Option Jvm.ClassFile.FieldType) :: uWS) := fun w h => List.mem_cons_of_mem _ h
  have hS : va_S (uA 165 ad s.heap.size) s.heap s.heap [] := va_S.rf
  have hl : lv_has ls 7 [(0, .ref (ad 0)), (1, .ref (ad (129 + 6 * j))), (2, .int (nI q)), (3, .int t)] := hl
  have hn40 : n ≤ 40 := hB.2.1
  refine lv_aload_n S.1 S.2.1 d_D_startCue_0 rfl (lv_at hl 0 rfl) ?_
  refine ur_get (k := 0) (v := .ref (ad 4)) S hK hP (by decide) xg_desk rfl (fun w h => hU w (in_D w h)) 3 (by decide) (hU _ t1_161) rfl d_D_startCue_1 ?_
  refine lv_iload_n S.1 S.2.1 d_D_startCue_4 rfl (lv_at hl 2 rfl) ?_
  refine uVr (n := 1) (b := 4) (As := [.int (nI q)]) (rest := []) S hK hN hP hS (c_B_at hJ v π q (by omega)) ⟨hU, t2_11, t2_8, t1_5, by decide +kernel, by decide, by decide⟩ t2_9 t2_10 (by decide) xg_book rfl rfl rfl hl.1 rfl (Nat.le_of_ble_eq_true rfl) d_D_startCue_5 ⟨Nat.le_of_ble_eq_true rfl, Nat.le_of_ble_eq_true rfl⟩ (fun r u H locs hp hP hS => ?_)
  obtain ⟨rfl, rfl⟩ := hp
  refine lv_astore (lv' := [(4, .ref (ad (89 + π q))), (0, .ref (ad 0)), (1, .ref (ad (129 + 6 * j))), (2, .int (nI q)), (3, .int t)]) S.1 S.2.1 d_D_startCue_8 hl (by decide) rfl (fun ls hl => ?_)
  refine lv_iconst (v := 0) S.1 S.2.1 d_D_startCue_10 (by decide) ?_
  refine lv_istore (lv' := [(5, .int 0), (4, .ref (ad (89 + π q))), (0, .ref (ad 0)), (1, .ref (ad (129 + 6 * j))), (2, .int (nI q)), (3, .int t)]) S.1 S.2.1 d_D_startCue_11 hl (by decide) rfl (fun ls hl => ?_)
  have L : ∀ i, i ≤ M → ∀ (H : Heap) (locs : List Loc) (ls : Array Slot), va_P D clsAll (uw 165 ad (xG ca ad ((stt v π j q t i), π))) H → va_S (uA 165 ad s.heap.size) s.heap H locs → lv_has ls 7 [(5, .int (nI i)), (4, .ref (ad (89 + π q))), (0, .ref (ad 0)), (1, .ref (ad (129 + 6 * j))), (2, .int (nI q)), (3, .int t)] → uGv 3 68 D clsAll 165 ad (xG ca ad) (fun u => u = (vStart v π j q t M, π)) [.ref (ad 0), .ref (ad (129 + 6 * j)), .int (nI q), .int t] p l e s m below meth c H locs 13 ls [] := by
    refine upTo M ?_ ?_
    · intro H locs ls hP hS hl
      have hB := stt_bk (j := j) (q := q) (t := t) hB M
      refine lv_iload S.1 S.2.1 d_D_startCue_13 (lv_at hl 0 rfl) ?_
      refine lv_bipush (v := 64) S.1 S.2.1 d_D_startCue_15 (by decide) ?_
      refine lv_icmp_ge (tgt := 64) S.1 S.2.1 d_D_startCue_17 (by decide) (fun c_h => ?_) (fun c_h => ?_)
      · refine lv_aload_n S.1 S.2.1 d_D_startCue_64 rfl (lv_at hl 3 rfl) ?_
        refine lv_aload S.1 S.2.1 d_D_startCue_65 (lv_at hl 1 rfl) ?_
        refine ur_getN (k := (89 + (π q))) (v := .int ((stt v π j q t M) 11 (π q) 0)) S hK hP (kb_C (hB.2.2 _ (by omega))) (xg_cue (hB.2.2 _ (by omega))) rfl (fun w h => hU w (in_C w h)) 2 (by decide) (hN _ t1_79) rfl d_D_startCue_67 ?_
        refine lv_topi (fun x_1 ex_1 => ?_)
        refine ur_putN (k := (129 + 6 * j)) (v := .int x_1) (g' := xG ca ad (up3 (stt v π j q t M) 27 j 0 x_1, π)) S hK hP (uD _ hJ) hS (kb_Y hj) (xg_ply hj) rfl (fun w h => hU w (in_Y w h)) ty_Y tyk_Y nm_Y 7 (by decide) (hN _ t1_132) rfl rfl rfl (Nat.le_of_ble_eq_true rfl) (xs_pcurrent hj) d_D_startCue_70 (fun H locs hP hS => ?_)
        refine lv_aload_n S.1 S.2.1 d_D_startCue_73 rfl (lv_at hl 3 rfl) ?_
        refine lv_iload_n S.1 S.2.1 d_D_startCue_74 rfl (lv_at hl 5 rfl) ?_
        refine ur_putN (k := (129 + 6 * j)) (v := .int t) (g' := xG ca ad (up3 (up3 (stt v π j q t M) 27 j 0 x_1) 28 j 0 t, π)) S hK hP (uD _ hJ) hS (kb_Y hj) (xg_ply hj) rfl (fun w h => hU w (in_Y w h)) ty_Y tyk_Y nm_Y 8 (by decide) (hN _ t1_134) rfl rfl rfl (Nat.le_of_ble_eq_true rfl) (xs_pstartTick hj) d_D_startCue_75 (fun H locs hP hS => ?_)
        refine lv_aload_n S.1 S.2.1 d_D_startCue_78 rfl (lv_at hl 3 rfl) ?_
        refine lv_aload S.1 S.2.1 d_D_startCue_79 (lv_at hl 1 rfl) ?_
        refine ur_getN (k := (89 + (π q))) (v := .int ((up3 (up3 (stt v π j q t M) 27 j 0 x_1) 28 j 0 t) 15 (π q) 0)) S hK hP (kb_C (hB.2.2 _ (by omega))) (xg_cue (hB.2.2 _ (by omega))) rfl (fun w h => hU w (in_C w h)) 6 (by decide) (hN _ t1_90) rfl d_D_startCue_81 ?_
        refine lv_iconst (v := (-1)) S.1 S.2.1 d_D_startCue_84 (by decide) ?_
        refine lv_icmp_ne (tgt := 92) S.1 S.2.1 d_D_startCue_85 (by decide) (fun c_f => ?_) (fun c_f => ?_)
        · simp only [up3_f (show 15 ≠ 28 by decide), up3_f (show 15 ≠ 27 by decide)] at c_f
          refine lv_iload_n S.1 S.2.1 d_D_startCue_92 rfl (lv_at hl 5 rfl) ?_
          refine lv_aload S.1 S.2.1 d_D_startCue_93 (lv_at hl 1 rfl) ?_
          refine ur_getN (k := (89 + (π q))) (v := .int ((up3 (up3 (stt v π j q t M) 27 j 0 x_1) 28 j 0 t) 15 (π q) 0)) S hK hP (kb_C (hB.2.2 _ (by omega))) (xg_cue (hB.2.2 _ (by omega))) rfl (fun w h => hU w (in_C w h)) 6 (by decide) (hN _ t1_90) rfl d_D_startCue_95 ?_
          refine lv_iadd S.1 S.2.1 d_D_startCue_98 ?_
          refine lv_topi (fun x_2 ex_2 => ?_)
          refine ur_putN (k := (129 + 6 * j)) (v := .int x_2) (g' := xG ca ad (up3 (up3 (up3 (stt v π j q t M) 27 j 0 x_1) 28 j 0 t) 29 j 0 x_2, π)) S hK hP (uD _ hJ) hS (kb_Y hj) (xg_ply hj) rfl (fun w h => hU w (in_Y w h)) ty_Y tyk_Y nm_Y 9 (by decide) (hN _ t1_136) rfl rfl rfl (Nat.le_of_ble_eq_true rfl) (xs_pfollowOn hj) d_D_startCue_99 (fun H locs hP hS => ?_)
          refine lv_aload_n S.1 S.2.1 d_D_startCue_102 rfl (lv_at hl 2 rfl) ?_
          refine lv_dup S.1 S.2.1 d_D_startCue_103 rfl ?_
          refine ur_get (k := 0) (v := .int ((up3 (up3 (up3 (stt v π j q t M) 27 j 0 x_1) 28 j 0 t) 29 j 0 x_2) 6 0 0)) S hK hP (by decide) xg_desk rfl (fun w h => hU w (in_D w h)) 6 (by decide) (hU _ t1_164) rfl d_D_startCue_104 ?_
          refine lv_iconst (v := 1) S.1 S.2.1 d_D_startCue_107 (by decide) ?_
          refine lv_iadd S.1 S.2.1 d_D_startCue_108 ?_
          refine lv_topi (fun x_3 ex_3 => ?_)
          refine ur_put (k := 0) (v := .int x_3) (g' := xG ca ad (up3 (up3 (up3 (up3 (stt v π j q t M) 27 j 0 x_1) 28 j 0 t) 29 j 0 x_2) 6 0 0 x_3, π)) S hK hP (uD _ hJ) hS (by decide) xg_desk rfl (fun w h => hU w (in_D w h)) ty_D tyk_D nm_D 6 (by decide) (hU _ t1_164) rfl rfl rfl (Nat.le_of_ble_eq_true rfl) xs_started d_D_startCue_109 (fun H locs hP hS => ?_)
          exact uVret S hr hlk ((up3 (up3 (up3 (up3 (stt v π j q t M) 27 j 0 x_1) 28 j 0 t) 29 j 0 x_2) 6 0 0 x_3), π) hP hS (by subst ex_3; subst ex_2; subst ex_1; simp [vStart, vStart1, up3_f, c_f]) d_D_startCue_112
        · simp only [up3_f (show 15 ≠ 28 by decide), up3_f (show 15 ≠ 27 by decide)] at c_f
          refine lv_iconst (v := (-1)) S.1 S.2.1 d_D_startCue_88 (by decide) ?_
          refine lv_goto (tgt := 99) S.1 S.2.1 d_D_startCue_89 (by decide) ?_
          refine ur_putN (k := (129 + 6 * j)) (v := .int (-1)) (g' := xG ca ad (up3 (up3 (up3 (stt v π j q t M) 27 j 0 x_1) 28 j 0 t) 29 j 0 (-1), π)) S hK hP (uD _ hJ) hS (kb_Y hj) (xg_ply hj) rfl (fun w h => hU w (in_Y w h)) ty_Y tyk_Y nm_Y 9 (by decide) (hN _ t1_136) rfl rfl rfl (Nat.le_of_ble_eq_true rfl) (xs_pfollowOn hj) d_D_startCue_99 (fun H locs hP hS => ?_)
          refine lv_aload_n S.1 S.2.1 d_D_startCue_102 rfl (lv_at hl 2 rfl) ?_
          refine lv_dup S.1 S.2.1 d_D_startCue_103 rfl ?_
          refine ur_get (k := 0) (v := .int ((up3 (up3 (up3 (stt v π j q t M) 27 j 0 x_1) 28 j 0 t) 29 j 0 (-1)) 6 0 0)) S hK hP (by decide) xg_desk rfl (fun w h => hU w (in_D w h)) 6 (by decide) (hU _ t1_164) rfl d_D_startCue_104 ?_
          refine lv_iconst (v := 1) S.1 S.2.1 d_D_startCue_107 (by decide) ?_
          refine lv_iadd S.1 S.2.1 d_D_startCue_108 ?_
          refine lv_topi (fun x_4 ex_4 => ?_)
          refine ur_put (k := 0) (v := .int x_4) (g' := xG ca ad (up3 (up3 (up3 (up3 (stt v π j q t M) 27 j 0 x_1) 28 j 0 t) 29 j 0 (-1)) 6 0 0 x_4, π)) S hK hP (uD _ hJ) hS (by decide) xg_desk rfl (fun w h => hU w (in_D w h)) ty_D tyk_D nm_D 6 (by decide) (hU _ t1_164) rfl rfl rfl (Nat.le_of_ble_eq_true rfl) xs_started d_D_startCue_109 (fun H locs hP hS => ?_)
          exact uVret S hr hlk ((up3 (up3 (up3 (up3 (stt v π j q t M) 27 j 0 x_1) 28 j 0 t) 29 j 0 (-1)) 6 0 0 x_4), π) hP hS (by subst ex_4; subst ex_1; simp [vStart, vStart1, up3_f, c_f]) d_D_startCue_112
      · exact absurd (by subst hM; exact nI_le (Nat.le_refl 64) (by decide)) c_h
    · intro i hi ih H locs ls hP hS hl
      have hB := stt_bk (j := j) (q := q) (t := t) hB i
      refine lv_iload S.1 S.2.1 d_D_startCue_13 (lv_at hl 0 rfl) ?_
      refine lv_bipush (v := 64) S.1 S.2.1 d_D_startCue_15 (by decide) ?_
      refine lv_icmp_ge (tgt := 64) S.1 S.2.1 d_D_startCue_17 (by decide) (fun c_h => ?_) (fun c_h => ?_)
      · exact absurd c_h (nI_ge (b := 64) (by omega) (by decide))
      · refine lv_aload_n S.1 S.2.1 d_D_startCue_20 rfl (lv_at hl 2 rfl) ?_
        refine ur_get (k := 0) (v := .ref (ad 2)) S hK hP (by decide) xg_desk rfl (fun w h => hU w (in_D w h)) 2 (by decide) (hU _ t1_160) rfl d_D_startCue_21 ?_
        refine lv_aload_n S.1 S.2.1 d_D_startCue_24 rfl (lv_at hl 2 rfl) ?_
        refine ur_get (k := 0) (v := .ref (ad 4)) S hK hP (by decide) xg_desk rfl (fun w h => hU w (in_D w h)) 3 (by decide) (hU _ t1_161) rfl d_D_startCue_25 ?_
        refine lv_iload_n S.1 S.2.1 d_D_startCue_28 rfl (lv_at hl 4 rfl) ?_
        refine lv_iload S.1 S.2.1 d_D_startCue_29 (lv_at hl 0 rfl) ?_
        refine uVi (n := 2) (b := 4) (As := [.int (nI q), .int (nI i)]) (rest := [.ref (ad 2)]) S hK hN hP hS (c_B_trackedAt hJ (stt v π j q t i) π n hB (some q) (fun p h => by cases h; omega) i (by omega)) ⟨hU, t2_154, t3_45, t1_5, by decide +kernel, by decide, by decide⟩ t2_152 t2_153 (by decide) xg_book rfl rfl rfl hl.1 rfl (Nat.le_of_ble_eq_true rfl) d_D_startCue_31 ⟨Nat.le_of_ble_eq_true rfl, Nat.le_of_ble_eq_true rfl⟩ (fun r u H locs hp hP hS => ?_)
        obtain ⟨rfl, rfl⟩ := hp
        refine lv_iload S.1 S.2.1 d_D_startCue_34 (lv_at hl 0 rfl) ?_
        refine uVi (n := 2) (b := 2) (As := [.int (trk (stt v π j q t i) π i (some q)), .int (nI i)]) (rest := []) S hK hN hP hS (c_P_levelOf hJ (stt v π j q t i) π (trk (stt v π j q t i) π i (some q)) i (by omega)) ⟨hU, t3_49, t3_46, t1_4, by decide +kernel, by decide, by decide⟩ t3_47 t3_48 (by decide) xg_pal rfl rfl rfl hl.1 rfl (Nat.le_of_ble_eq_true rfl) d_D_startCue_36 ⟨Nat.le_of_ble_eq_true rfl, Nat.le_of_ble_eq_true rfl⟩ (fun r u H locs hp hP hS => ?_)
        obtain ⟨rfl, rfl⟩ := hp
        refine lv_istore (lv' := [(6, .int (vLev (stt v π j q t i) (trk (stt v π j q t i) π i (some q)) i)), (5, .int (nI i)), (4, .ref (ad (89 + π q))), (0, .ref (ad 0)), (1, .ref (ad (129 + 6 * j))), (2, .int (nI q)), (3, .int t)]) S.1 S.2.1 d_D_startCue_39 hl (by decide) rfl (fun ls hl => ?_)
        refine lv_iload S.1 S.2.1 d_D_startCue_41 (lv_at hl 0 rfl) ?_
        refine lv_iconst (v := (-1)) S.1 S.2.1 d_D_startCue_43 (by decide) ?_
        refine lv_icmp_eq (tgt := 58) S.1 S.2.1 d_D_startCue_44 (by decide) (fun c_l => ?_) (fun c_l => ?_)
        · refine lv_iinc (v := nI (i + 1)) (lv' := [(5, .int (nI (i + 1))), (6, .int (vLev (stt v π j q t i) (trk (stt v π j q t i) π i (some q)) i)), (4, .ref (ad (89 + π q))), (0, .ref (ad 0)), (1, .ref (ad (129 + 6 * j))), (2, .int (nI q)), (3, .int t)]) S.1 S.2.1 d_D_startCue_58 hl (k := 1) rfl (nI_1 i) (by decide) rfl (fun ls hl => ?_)
          refine lv_goto (tgt := 13) S.1 S.2.1 d_D_startCue_61 (by decide) ?_
          exact ih _ _ ls (by rw [stt, if_pos c_l]; exact hP) hS (lv_sub hl [0, 2, 3, 4, 5, 6] rfl)
        · refine lv_aload_n S.1 S.2.1 d_D_startCue_47 rfl (lv_at hl 4 rfl) ?_
          refine lv_iload S.1 S.2.1 d_D_startCue_48 (lv_at hl 1 rfl) ?_
          refine lv_iload S.1 S.2.1 d_D_startCue_50 (lv_at hl 0 rfl) ?_
          refine lv_aload S.1 S.2.1 d_D_startCue_52 (lv_at hl 2 rfl) ?_
          refine lv_iload_n S.1 S.2.1 d_D_startCue_54 rfl (lv_at hl 6 rfl) ?_
          refine uVv (n := 4) (b := (129 + 6 * j)) (As := [.int (nI i), .int (vLev (stt v π j q t i) (trk (stt v π j q t i) π i (some q)) i), .ref (ad (89 + π q)), .int t]) (rest := []) S hK hN hP hS (c_Y_fade hJ (stt v π j q t i) π j i hj (by omega) (vLev (stt v π j q t i) (trk (stt v π j q t i) π i (some q)) i) (π q) (hB.2.2 _ (by omega)) t) ⟨hU, t3_113, t3_110, t1_7, by decide +kernel, by decide, by decide⟩ t3_111 t3_112 (kb_Y hj) (xg_ply hj) rfl rfl rfl hl.1 rfl (Nat.le_of_ble_eq_true rfl) d_D_startCue_55 ⟨Nat.le_of_ble_eq_true rfl, Nat.le_of_ble_eq_true rfl⟩ (fun u H locs hp hP hS => ?_)
          obtain rfl := hp
          refine lv_iinc (v := nI (i + 1)) (lv' := [(5, .int (nI (i + 1))), (6, .int (vLev (stt v π j q t i) (trk (stt v π j q t i) π i (some q)) i)), (4, .ref (ad (89 + π q))), (0, .ref (ad 0)), (1, .ref (ad (129 + 6 * j))), (2, .int (nI q)), (3, .int t)]) S.1 S.2.1 d_D_startCue_58 hl (k := 1) rfl (nI_1 i) (by decide) rfl (fun ls hl => ?_)
          refine lv_goto (tgt := 13) S.1 S.2.1 d_D_startCue_61 (by decide) ?_
          exact ih _ _ ls (by rw [stt, if_neg c_l]; exact hP) hS (lv_sub hl [0, 2, 3, 4, 5, 6] rfl)
  exact L 0 (Nat.zero_le _) _ _ ls hP hS (lv_sub hl [0, 1, 2, 3, 4, 5] rfl)

set_option maxRecDepth 100000 in
set_option maxHeartbeats 4000000 in
theorem c_D_followOn {l : Launch} {D : va_G} {ca : Nat → ClassId} {ad : Nat → Nat} (hJ : uJ 165 ad) (v : Nat → Nat → Nat → Int32) (π : Nat → Nat) (M : Nat) (hM : M = 64) (n : Nat) (hB : xBk v π n) (j : Nat) (hj : j < 6) : uMv l y_D_followOn b_D_followOn 3 (none : Option Jvm.ClassFile.FieldType) 4 94 D clsAll (tysAll ca) 165 ad (xG ca ad) (v, π) [.ref (ad 0), .ref (ad (129 + 6 * j))] (fun u => u = (vFol v π n j M, π)) := by
  refine uStart (by decide) (Nat.le_of_ble_eq_true rfl) ?_
  intro p e s m below meth c ls S hr hlk hK hN hP hl
  have hU : ∀ w ∈ uWS, w ∈ (Cond.code y_D_followOn b_D_followOn 3 (none : Option Jvm.ClassFile.FieldType) :: uWS) := fun w h => List.mem_cons_of_mem _ h
  have hS : va_S (uA 165 ad s.heap.size) s.heap s.heap [] := va_S.rf
  have hl : lv_has ls 3 [(0, .ref (ad 0)), (1, .ref (ad (129 + 6 * j)))] := hl
  have hn40 : n ≤ 40 := hB.2.1
  refine lv_aload_n S.1 S.2.1 d_D_followOn_0 rfl (lv_at hl 0 rfl) ?_
  refine ur_get (k := 0) (v := .ref (ad 4)) S hK hP (by decide) xg_desk rfl (fun w h => hU w (in_D w h)) 3 (by decide) (hU _ t1_161) rfl d_D_followOn_1 ?_
  refine lv_aload_n S.1 S.2.1 d_D_followOn_4 rfl (lv_at hl 1 rfl) ?_
  refine ur_getN (k := (129 + 6 * j)) (v := .int (v 25 j 0)) S hK hP (kb_Y hj) (xg_ply hj) rfl (fun w h => hU w (in_Y w h)) 5 (by decide) (hN _ t1_128) rfl d_D_followOn_5 ?_
  refine lv_aload_n S.1 S.2.1 d_D_followOn_8 rfl (lv_at hl 1 rfl) ?_
  refine ur_getN (k := (129 + 6 * j)) (v := .int (v 27 j 0)) S hK hP (kb_Y hj) (xg_ply hj) rfl (fun w h => hU w (in_Y w h)) 7 (by decide) (hN _ t1_132) rfl d_D_followOn_9 ?_
  refine uVi (n := 2) (b := 4) (As := [.int (v 25 j 0), .int (v 27 j 0)]) (rest := []) S hK hN hP hS (c_B_placeAbove hJ v π n hB (v 25 j 0) (v 27 j 0)) ⟨hU, t2_127, t3_105, t1_5, by decide +kernel, by decide, by decide⟩ t2_125 t2_126 (by decide) xg_book rfl rfl rfl hl.1 rfl (Nat.le_of_ble_eq_true rfl) d_D_followOn_12 ⟨Nat.le_of_ble_eq_true rfl, Nat.le_of_ble_eq_true rfl⟩ (fun r u H locs hp hP hS => ?_)
  obtain ⟨rfl, rfl⟩ := hp
  rcases hX_1 : abvO v π n (v 25 j 0) (v 27 j 0) with _ | p_2
  · refine lv_istore_n (lv' := [(2, .int (-1)), (0, .ref (ad 0)), (1, .ref (ad (129 + 6 * j)))]) S.1 S.2.1 d_D_followOn_15 rfl hl (by decide) rfl (fun ls hl => ?_)
    refine lv_iload_n S.1 S.2.1 d_D_followOn_16 rfl (lv_at hl 0 rfl) ?_
    refine lv_iconst (v := (-1)) S.1 S.2.1 d_D_followOn_17 (by decide) ?_
    refine lv_icmp_ne (tgt := 29) S.1 S.2.1 d_D_followOn_18 (by decide) (fun c_3 => ?_) (fun c_3 => ?_)
    · exact absurd rfl c_3
    · refine lv_aload_n S.1 S.2.1 d_D_followOn_21 rfl (lv_at hl 2 rfl) ?_
      refine lv_iconst (v := (-1)) S.1 S.2.1 d_D_followOn_22 (by decide) ?_
      refine ur_putN (k := (129 + 6 * j)) (v := .int (-1)) (g' := xG ca ad (up3 v 29 j 0 (-1), π)) S hK hP (uD _ hJ) hS (kb_Y hj) (xg_ply hj) rfl (fun w h => hU w (in_Y w h)) ty_Y tyk_Y nm_Y 9 (by decide) (hN _ t1_136) rfl rfl rfl (Nat.le_of_ble_eq_true rfl) (xs_pfollowOn hj) d_D_followOn_23 (fun H locs hP hS => ?_)
      refine lv_goto (tgt := 39) S.1 S.2.1 d_D_followOn_26 (by decide) ?_
      exact uVret S hr hlk ((up3 v 29 j 0 (-1)), π) hP hS (by unfold vFol; rw [hX_1]) d_D_followOn_39
  · have hp_2 : p_2 < n := abvO_lt _ hX_1
    refine lv_istore_n (lv' := [(2, .int (nI p_2)), (0, .ref (ad 0)), (1, .ref (ad (129 + 6 * j)))]) S.1 S.2.1 d_D_followOn_15 rfl hl (by decide) rfl (fun ls hl => ?_)
    refine lv_iload_n S.1 S.2.1 d_D_followOn_16 rfl (lv_at hl 0 rfl) ?_
    refine lv_iconst (v := (-1)) S.1 S.2.1 d_D_followOn_17 (by decide) ?_
    refine lv_icmp_ne (tgt := 29) S.1 S.2.1 d_D_followOn_18 (by decide) (fun c_4 => ?_) (fun c_4 => ?_)
    · refine lv_aload_n S.1 S.2.1 d_D_followOn_29 rfl (lv_at hl 1 rfl) ?_
      refine lv_aload_n S.1 S.2.1 d_D_followOn_30 rfl (lv_at hl 2 rfl) ?_
      refine lv_iload_n S.1 S.2.1 d_D_followOn_31 rfl (lv_at hl 0 rfl) ?_
      refine lv_aload_n S.1 S.2.1 d_D_followOn_32 rfl (lv_at hl 2 rfl) ?_
      refine ur_getN (k := (129 + 6 * j)) (v := .int (v 29 j 0)) S hK hP (kb_Y hj) (xg_ply hj) rfl (fun w h => hU w (in_Y w h)) 9 (by decide) (hN _ t1_136) rfl d_D_followOn_33 ?_
      refine uVv (n := 3) (b := 0) (As := [.ref (ad (129 + 6 * j)), .int (nI p_2), .int (v 29 j 0)]) (rest := []) S hK hN hP hS (c_D_startCue hJ v π M hM n hB j p_2 hj (by omega) (v 29 j 0)) ⟨hU, t3_109, t3_106, t1_1, by decide +kernel, by decide, by decide⟩ t3_108 tp_12 (by decide) xg_desk rfl rfl rfl hl.1 rfl (Nat.le_of_ble_eq_true rfl) d_D_followOn_36 ⟨Nat.le_of_ble_eq_true rfl, Nat.le_of_ble_eq_true rfl⟩ (fun u H locs hp hP hS => ?_)
      obtain rfl := hp
      exact uVret S hr hlk ((vStart v π j p_2 (v 29 j 0) M), π) hP hS (by unfold vFol; rw [hX_1]) d_D_followOn_39
    · exact absurd c_4 (nI_nm1 (by omega))

set_option maxRecDepth 100000 in
set_option maxHeartbeats 4000000 in
theorem c_D_earliestDue {l : Launch} {D : va_G} {ca : Nat → ClassId} {ad : Nat → Nat} (hJ : uJ 165 ad) (v : Nat → Nat → Nat → Int32) (π : Nat → Nat) (Q6 : Nat) (h6 : Q6 = 6) (t : Int32) : uMi l y_D_earliestDue b_D_earliestDue 6 (some .int) 0 0 D clsAll (tysAll ca) 165 ad (xG ca ad) (v, π) [.ref (ad 0), .int t] (fun r u => u = (v, π) ∧ r = oI (eD v t Q6).1) := by
  refine uStart (by decide) (Nat.le_of_ble_eq_true rfl) ?_
  intro p e s m below meth c ls S hr hlk hK hN hP hl
  have hU : ∀ w ∈ uWS, w ∈ (Cond.code y_D_earliestDue b_D_earliestDue 6 (some .int) :: uWS) := fun w h => List.mem_cons_of_mem _ h
  have hS : va_S (uA 165 ad s.heap.size) s.heap s.heap [] := va_S.rf
  have hl : lv_has ls 6 [(0, .ref (ad 0)), (1, .int t)] := hl
  refine lv_iconst (v := (-1)) S.1 S.2.1 d_D_earliestDue_0 (by decide) ?_
  refine lv_istore_n (lv' := [(2, .int (-1)), (0, .ref (ad 0)), (1, .int t)]) S.1 S.2.1 d_D_earliestDue_1 rfl hl (by decide) rfl (fun ls hl => ?_)
  refine lv_iload_n S.1 S.2.1 d_D_earliestDue_2 rfl (lv_at hl 2 rfl) ?_
  refine lv_istore_n (lv' := [(3, .int t), (2, .int (-1)), (0, .ref (ad 0)), (1, .int t)]) S.1 S.2.1 d_D_earliestDue_3 rfl hl (by decide) rfl (fun ls hl => ?_)
  refine lv_iconst (v := 0) S.1 S.2.1 d_D_earliestDue_4 (by decide) ?_
  refine lv_istore (lv' := [(4, .int 0), (3, .int t), (2, .int (-1)), (0, .ref (ad 0)), (1, .int t)]) S.1 S.2.1 d_D_earliestDue_5 hl (by decide) rfl (fun ls hl => ?_)
  have L : ∀ i, i ≤ Q6 → ∀ (H : Heap) (locs : List Loc) (ls : Array Slot), va_P D clsAll (uw 165 ad (xG ca ad (v, π))) H → va_S (uA 165 ad s.heap.size) s.heap H locs → lv_has ls 6 [(4, .int (nI i)), (2, .int (oI (eD v t i).1)), (3, .int ((eD v t i).2)), (0, .ref (ad 0)), (1, .int t)] → uGi 0 0 D clsAll 165 ad (xG ca ad) (fun r u => u = (v, π) ∧ r = oI (eD v t Q6).1) [.ref (ad 0), .int t] p l e s m below meth c H locs 7 ls [] := by
    refine upTo Q6 ?_ ?_
    · intro H locs ls hP hS hl
      refine lv_iload S.1 S.2.1 d_D_earliestDue_7 (lv_at hl 0 rfl) ?_
      refine lv_bipush (v := 6) S.1 S.2.1 d_D_earliestDue_9 (by decide) ?_
      refine lv_icmp_ge (tgt := 64) S.1 S.2.1 d_D_earliestDue_11 (by decide) (fun c_h => ?_) (fun c_h => ?_)
      · refine lv_iload_n S.1 S.2.1 d_D_earliestDue_64 rfl (lv_at hl 1 rfl) ?_
        exact uIret S hr hlk (v, π) hP hS (⟨rfl, rfl⟩) d_D_earliestDue_65
      · exact absurd (by subst h6; exact nI_le (Nat.le_refl 6) (by decide)) c_h
    · intro i hi ih H locs ls hP hS hl
      refine lv_iload S.1 S.2.1 d_D_earliestDue_7 (lv_at hl 0 rfl) ?_
      refine lv_bipush (v := 6) S.1 S.2.1 d_D_earliestDue_9 (by decide) ?_
      refine lv_icmp_ge (tgt := 64) S.1 S.2.1 d_D_earliestDue_11 (by decide) (fun c_h => ?_) (fun c_h => ?_)
      · exact absurd c_h (nI_ge (b := 6) (by omega) (by decide))
      · refine lv_aload_n S.1 S.2.1 d_D_earliestDue_14 rfl (lv_at hl 3 rfl) ?_
        refine ur_get (k := 0) (v := .ref (ad 6)) S hK hP (by decide) xg_desk rfl (fun w h => hU w (in_D w h)) 4 (by decide) (hU _ t1_162) rfl d_D_earliestDue_15 ?_
        refine lv_iload S.1 S.2.1 d_D_earliestDue_18 (lv_at hl 0 rfl) ?_
        refine ur_aald (k := 6) (q := ad (129 + 6 * i)) (j := i) S hK hP (by decide) 3 xg_plys rfl rfl (by omega) (by decide) rfl d_D_earliestDue_20 ?_
        refine ur_getN (k := (129 + 6 * i)) (v := .int (v 29 i 0)) S hK hP (kb_Y (by omega)) (xg_ply (by omega)) rfl (fun w h => hU w (in_Y w h)) 9 (by decide) (hN _ t1_136) rfl d_D_earliestDue_21 ?_
        refine lv_istore (lv' := [(5, .int (v 29 i 0)), (4, .int (nI i)), (2, .int (oI (eD v t i).1)), (3, .int ((eD v t i).2)), (0, .ref (ad 0)), (1, .int t)]) S.1 S.2.1 d_D_earliestDue_24 hl (by decide) rfl (fun ls hl => ?_)
        refine lv_iload S.1 S.2.1 d_D_earliestDue_26 (lv_at hl 0 rfl) ?_
        refine lv_iconst (v := (-1)) S.1 S.2.1 d_D_earliestDue_28 (by decide) ?_
        refine lv_icmp_eq (tgt := 58) S.1 S.2.1 d_D_earliestDue_29 (by decide) (fun c_1 => ?_) (fun c_1 => ?_)
        · refine lv_iinc (v := nI (i + 1)) (lv' := [(4, .int (nI (i + 1))), (5, .int (v 29 i 0)), (2, .int (oI (eD v t i).1)), (3, .int ((eD v t i).2)), (0, .ref (ad 0)), (1, .int t)]) S.1 S.2.1 d_D_earliestDue_58 hl (k := 1) rfl (nI_1 i) (by decide) rfl (fun ls hl => ?_)
          refine lv_goto (tgt := 7) S.1 S.2.1 d_D_earliestDue_61 (by decide) ?_
          exact ih _ _ ls hP hS (by rw [show eD v t (i + 1) = eD v t i from by rw [eD, if_pos c_1]]; exact lv_sub hl [0, 2, 3, 4, 5] rfl)
        · refine lv_iload S.1 S.2.1 d_D_earliestDue_32 (lv_at hl 0 rfl) ?_
          refine lv_iload_n S.1 S.2.1 d_D_earliestDue_34 rfl (lv_at hl 3 rfl) ?_
          refine lv_icmp_le (tgt := 41) S.1 S.2.1 d_D_earliestDue_35 (by decide) (fun c_2 => ?_) (fun c_2 => ?_)
          · refine lv_iload_n S.1 S.2.1 d_D_earliestDue_41 rfl (lv_at hl 2 rfl) ?_
            rcases hX_1 : (eD v t i).1 with _ | p_2
            · refine lv_iconst (v := (-1)) S.1 S.2.1 d_D_earliestDue_42 (by decide) ?_
              refine lv_icmp_eq (tgt := 52) S.1 S.2.1 d_D_earliestDue_43 (by decide) (fun c_3 => ?_) (fun c_3 => ?_)
              · refine lv_iload S.1 S.2.1 d_D_earliestDue_52 (lv_at hl 1 rfl) ?_
                refine lv_istore_n (lv' := [(2, .int (nI i)), (5, .int (v 29 i 0)), (4, .int (nI i)), (3, .int ((eD v t i).2)), (0, .ref (ad 0)), (1, .int t)]) S.1 S.2.1 d_D_earliestDue_54 rfl hl (by decide) rfl (fun ls hl => ?_)
                refine lv_iload S.1 S.2.1 d_D_earliestDue_55 (lv_at hl 1 rfl) ?_
                refine lv_istore_n (lv' := [(3, .int (v 29 i 0)), (2, .int (nI i)), (5, .int (v 29 i 0)), (4, .int (nI i)), (0, .ref (ad 0)), (1, .int t)]) S.1 S.2.1 d_D_earliestDue_57 rfl hl (by decide) rfl (fun ls hl => ?_)
                refine lv_iinc (v := nI (i + 1)) (lv' := [(4, .int (nI (i + 1))), (3, .int (v 29 i 0)), (2, .int (nI i)), (5, .int (v 29 i 0)), (0, .ref (ad 0)), (1, .int t)]) S.1 S.2.1 d_D_earliestDue_58 hl (k := 3) rfl (nI_1 i) (by decide) rfl (fun ls hl => ?_)
                refine lv_goto (tgt := 7) S.1 S.2.1 d_D_earliestDue_61 (by decide) ?_
                exact ih _ _ ls hP hS (by rw [show eD v t (i + 1) = (some i, v 29 i 0) from by rw [eD, if_neg c_1, if_pos c_2, if_pos hX_1]]; exact lv_sub hl [0, 2, 1, 4, 5] rfl)
              · exact absurd rfl c_3
            · have hp_2 := eD_lt _ _ hX_1
              refine lv_iconst (v := (-1)) S.1 S.2.1 d_D_earliestDue_42 (by decide) ?_
              refine lv_icmp_eq (tgt := 52) S.1 S.2.1 d_D_earliestDue_43 (by decide) (fun c_4 => ?_) (fun c_4 => ?_)
              · exact absurd c_4 (nI_nm1 (by omega))
              · refine lv_iload S.1 S.2.1 d_D_earliestDue_46 (lv_at hl 0 rfl) ?_
                refine lv_iload_n S.1 S.2.1 d_D_earliestDue_48 rfl (lv_at hl 3 rfl) ?_
                refine lv_icmp_ge (tgt := 58) S.1 S.2.1 d_D_earliestDue_49 (by decide) (fun c_3 => ?_) (fun c_3 => ?_)
                · refine lv_iinc (v := nI (i + 1)) (lv' := [(4, .int (nI (i + 1))), (5, .int (v 29 i 0)), (2, .int (oI (eD v t i).1)), (3, .int ((eD v t i).2)), (0, .ref (ad 0)), (1, .int t)]) S.1 S.2.1 d_D_earliestDue_58 hl (k := 1) rfl (nI_1 i) (by decide) rfl (fun ls hl => ?_)
                  refine lv_goto (tgt := 7) S.1 S.2.1 d_D_earliestDue_61 (by decide) ?_
                  exact ih _ _ ls hP hS (by rw [show eD v t (i + 1) = eD v t i from by rw [eD, if_neg c_1, if_pos c_2, if_neg (by rw [hX_1]; exact fun z => nomatch z), if_pos c_3]]; exact lv_sub hl [0, 2, 3, 4, 5] rfl)
                · refine lv_iload S.1 S.2.1 d_D_earliestDue_52 (lv_at hl 1 rfl) ?_
                  refine lv_istore_n (lv' := [(2, .int (nI i)), (5, .int (v 29 i 0)), (4, .int (nI i)), (3, .int ((eD v t i).2)), (0, .ref (ad 0)), (1, .int t)]) S.1 S.2.1 d_D_earliestDue_54 rfl hl (by decide) rfl (fun ls hl => ?_)
                  refine lv_iload S.1 S.2.1 d_D_earliestDue_55 (lv_at hl 1 rfl) ?_
                  refine lv_istore_n (lv' := [(3, .int (v 29 i 0)), (2, .int (nI i)), (5, .int (v 29 i 0)), (4, .int (nI i)), (0, .ref (ad 0)), (1, .int t)]) S.1 S.2.1 d_D_earliestDue_57 rfl hl (by decide) rfl (fun ls hl => ?_)
                  refine lv_iinc (v := nI (i + 1)) (lv' := [(4, .int (nI (i + 1))), (3, .int (v 29 i 0)), (2, .int (nI i)), (5, .int (v 29 i 0)), (0, .ref (ad 0)), (1, .int t)]) S.1 S.2.1 d_D_earliestDue_58 hl (k := 3) rfl (nI_1 i) (by decide) rfl (fun ls hl => ?_)
                  refine lv_goto (tgt := 7) S.1 S.2.1 d_D_earliestDue_61 (by decide) ?_
                  exact ih _ _ ls hP hS (by rw [show eD v t (i + 1) = (some i, v 29 i 0) from by rw [eD, if_neg c_1, if_pos c_2, if_neg (by rw [hX_1]; exact fun z => nomatch z), if_neg c_3]]; exact lv_sub hl [0, 2, 1, 4, 5] rfl)
          · refine lv_goto (tgt := 58) S.1 S.2.1 d_D_earliestDue_38 (by decide) ?_
            refine lv_iinc (v := nI (i + 1)) (lv' := [(4, .int (nI (i + 1))), (5, .int (v 29 i 0)), (2, .int (oI (eD v t i).1)), (3, .int ((eD v t i).2)), (0, .ref (ad 0)), (1, .int t)]) S.1 S.2.1 d_D_earliestDue_58 hl (k := 1) rfl (nI_1 i) (by decide) rfl (fun ls hl => ?_)
            refine lv_goto (tgt := 7) S.1 S.2.1 d_D_earliestDue_61 (by decide) ?_
            exact ih _ _ ls hP hS (by rw [show eD v t (i + 1) = eD v t i from by rw [eD, if_neg c_1, if_neg c_2]]; exact lv_sub hl [0, 2, 3, 4, 5] rfl)
  exact L 0 (Nat.zero_le _) _ _ ls hP hS (lv_sub hl [0, 2, 1, 3, 4] rfl)


set_option maxRecDepth 100000 in
set_option maxHeartbeats 4000000 in
theorem c_D_tell {l : Launch} {D : va_G} {ca : Nat → ClassId} {ad : Nat → Nat} (hJ : uJ 165 ad) (v : Nat → Nat → Nat → Int32) (π : Nat → Nat) (M : Nat) (hM : M = 64) (n : Nat) (hB : xBk v π n) (Q6 : Nat) (h6 : Q6 = 6) (T1 : Nat) (hT1 : T1 = 1000) (t : Int32) : uMv l y_D_tell b_D_tell 4 (none : Option Jvm.ClassFile.FieldType) 5 116 D clsAll (tysAll ca) 165 ad (xG ca ad) (v, π) [.ref (ad 0), .int t] (fun u => u = (up3 (tl π n t M Q6 T1 v) 5 0 0 t, π)) := by
  refine uStart (by decide) (Nat.le_of_ble_eq_true rfl) ?_
  intro p e s m below meth c ls S hr hlk hK hN hP hl
  have hU : ∀ w ∈ uWS, w ∈ (Cond.code y_D_tell b_D_tell 4 (none : Option Jvm.ClassFile.FieldType) :: uWS) := fun w h => List.mem_cons_of_mem _ h
  have hS : va_S (uA 165 ad s.heap.size) s.heap s.heap [] := va_S.rf
  have hl : lv_has ls 4 [(0, .ref (ad 0)), (1, .int t)] := hl
  have hn40 : n ≤ 40 := hB.2.1
  refine lv_iconst (v := 0) S.1 S.2.1 d_D_tell_0 (by decide) ?_
  refine lv_istore_n (lv' := [(2, .int 0), (0, .ref (ad 0)), (1, .int t)]) S.1 S.2.1 d_D_tell_1 rfl hl (by decide) rfl (fun ls hl => ?_)
  have L : ∀ i, i ≤ T1 → ∀ (w : Nat → Nat → Nat → Int32), (tl π n t M Q6 T1 v = tl π n t M Q6 (T1 - i) w ∧ xBk w π n) → ∀ (H : Heap) (locs : List Loc) (ls : Array Slot), va_P D clsAll (uw 165 ad (xG ca ad (w, π))) H → va_S (uA 165 ad s.heap.size) s.heap H locs → lv_has ls 4 [(2, .int (nI i)), (0, .ref (ad 0)), (1, .int t)] → uGv 5 116 D clsAll 165 ad (xG ca ad) (fun u => u = (up3 (tl π n t M Q6 T1 v) 5 0 0 t, π)) [.ref (ad 0), .int t] p l e s m below meth c H locs 2 ls [] := by
    refine upTo T1 ?_ ?_
    · intro w hI H locs ls hP hS hl
      have hB := hI.2
      refine lv_iload_n S.1 S.2.1 d_D_tell_2 rfl (lv_at hl 0 rfl) ?_
      refine lv_sipush (v := 1000) S.1 S.2.1 d_D_tell_3 (by decide) ?_
      refine lv_icmp_ge (tgt := 39) S.1 S.2.1 d_D_tell_6 (by decide) (fun c_h => ?_) (fun c_h => ?_)
      · refine lv_aload_n S.1 S.2.1 d_D_tell_39 rfl (lv_at hl 1 rfl) ?_
        refine lv_iload_n S.1 S.2.1 d_D_tell_40 rfl (lv_at hl 2 rfl) ?_
        refine ur_put (k := 0) (v := .int t) (g' := xG ca ad (up3 w 5 0 0 t, π)) S hK hP (uD _ hJ) hS (by decide) xg_desk rfl (fun w h => hU w (in_D w h)) ty_D tyk_D nm_D 5 (by decide) (hU _ t1_163) rfl rfl rfl (Nat.le_of_ble_eq_true rfl) xs_now d_D_tell_41 (fun H locs hP hS => ?_)
        exact uVret S hr hlk ((up3 w 5 0 0 t), π) hP hS (by rw [hI.1, Nat.sub_self]; rfl) d_D_tell_44
      · exact absurd (by subst hT1; exact nI_le (Nat.le_refl 1000) (by decide)) c_h
    · intro i hi ih w hI H locs ls hP hS hl
      have hB := hI.2
      refine lv_iload_n S.1 S.2.1 d_D_tell_2 rfl (lv_at hl 0 rfl) ?_
      refine lv_sipush (v := 1000) S.1 S.2.1 d_D_tell_3 (by decide) ?_
      refine lv_icmp_ge (tgt := 39) S.1 S.2.1 d_D_tell_6 (by decide) (fun c_h => ?_) (fun c_h => ?_)
      · exact absurd c_h (nI_ge (b := 1000) (by omega) (by decide))
      · refine lv_aload_n S.1 S.2.1 d_D_tell_9 rfl (lv_at hl 1 rfl) ?_
        refine lv_iload_n S.1 S.2.1 d_D_tell_10 rfl (lv_at hl 2 rfl) ?_
        refine uVi (n := 1) (b := 0) (As := [.int t]) (rest := []) S hK hN hP hS (c_D_earliestDue hJ w π Q6 h6 t) ⟨hU, t3_100, t3_97, t1_1, by decide +kernel, by decide, by decide⟩ t3_99 tp_10 (by decide) xg_desk rfl rfl rfl hl.1 rfl (Nat.le_of_ble_eq_true rfl) d_D_tell_11 ⟨Nat.le_of_ble_eq_true rfl, Nat.le_of_ble_eq_true rfl⟩ (fun r u H locs hp hP hS => ?_)
        obtain ⟨rfl, rfl⟩ := hp
        rcases hX_1 : (eD w t Q6).1 with _ | p_2
        · refine lv_istore_n (lv' := [(3, .int (-1)), (2, .int (nI i)), (0, .ref (ad 0)), (1, .int t)]) S.1 S.2.1 d_D_tell_14 rfl hl (by decide) rfl (fun ls hl => ?_)
          refine lv_iload_n S.1 S.2.1 d_D_tell_15 rfl (lv_at hl 0 rfl) ?_
          refine lv_iconst (v := (-1)) S.1 S.2.1 d_D_tell_16 (by decide) ?_
          refine lv_icmp_ne (tgt := 23) S.1 S.2.1 d_D_tell_17 (by decide) (fun c_3 => ?_) (fun c_3 => ?_)
          · exact absurd rfl c_3
          · refine lv_goto (tgt := 39) S.1 S.2.1 d_D_tell_20 (by decide) ?_
            refine lv_aload_n S.1 S.2.1 d_D_tell_39 rfl (lv_at hl 2 rfl) ?_
            refine lv_iload_n S.1 S.2.1 d_D_tell_40 rfl (lv_at hl 3 rfl) ?_
            refine ur_put (k := 0) (v := .int t) (g' := xG ca ad (up3 w 5 0 0 t, π)) S hK hP (uD _ hJ) hS (by decide) xg_desk rfl (fun w h => hU w (in_D w h)) ty_D tyk_D nm_D 5 (by decide) (hU _ t1_163) rfl rfl rfl (Nat.le_of_ble_eq_true rfl) xs_now d_D_tell_41 (fun H locs hP hS => ?_)
            exact uVret S hr hlk ((up3 w 5 0 0 t), π) hP hS (by rw [hI.1, show T1 - i = (T1 - (i + 1)) + 1 by omega, tl, hX_1]) d_D_tell_44
        · have hp_2 := eD_lt _ _ hX_1
          refine lv_istore_n (lv' := [(3, .int (nI p_2)), (2, .int (nI i)), (0, .ref (ad 0)), (1, .int t)]) S.1 S.2.1 d_D_tell_14 rfl hl (by decide) rfl (fun ls hl => ?_)
          refine lv_iload_n S.1 S.2.1 d_D_tell_15 rfl (lv_at hl 0 rfl) ?_
          refine lv_iconst (v := (-1)) S.1 S.2.1 d_D_tell_16 (by decide) ?_
          refine lv_icmp_ne (tgt := 23) S.1 S.2.1 d_D_tell_17 (by decide) (fun c_4 => ?_) (fun c_4 => ?_)
          · refine lv_aload_n S.1 S.2.1 d_D_tell_23 rfl (lv_at hl 2 rfl) ?_
            refine lv_aload_n S.1 S.2.1 d_D_tell_24 rfl (lv_at hl 2 rfl) ?_
            refine ur_get (k := 0) (v := .ref (ad 6)) S hK hP (by decide) xg_desk rfl (fun w h => hU w (in_D w h)) 4 (by decide) (hU _ t1_162) rfl d_D_tell_25 ?_
            refine lv_iload_n S.1 S.2.1 d_D_tell_28 rfl (lv_at hl 0 rfl) ?_
            refine ur_aald (k := 6) (q := ad (129 + 6 * p_2)) (j := p_2) S hK hP (by decide) 3 xg_plys rfl rfl (by omega) (by decide) rfl d_D_tell_29 ?_
            refine uVv (n := 1) (b := 0) (As := [.ref (ad (129 + 6 * p_2))]) (rest := []) S hK hN hP hS (c_D_followOn hJ w π M hM n hB p_2 (by omega)) ⟨hU, t3_104, t3_101, t1_1, by decide +kernel, by decide, by decide⟩ t3_103 tp_11 (by decide) xg_desk rfl rfl rfl hl.1 rfl (Nat.le_of_ble_eq_true rfl) d_D_tell_30 ⟨Nat.le_of_ble_eq_true rfl, Nat.le_of_ble_eq_true rfl⟩ (fun u H locs hp hP hS => ?_)
            obtain rfl := hp
            refine lv_iinc (v := nI (i + 1)) (lv' := [(2, .int (nI (i + 1))), (3, .int (nI p_2)), (0, .ref (ad 0)), (1, .int t)]) S.1 S.2.1 d_D_tell_33 hl (k := 1) rfl (nI_1 i) (by decide) rfl (fun ls hl => ?_)
            refine lv_goto (tgt := 2) S.1 S.2.1 d_D_tell_36 (by decide) ?_
            exact ih _ ⟨by rw [hI.1, show T1 - i = (T1 - (i + 1)) + 1 by omega, tl, hX_1], xBk_fol hI.2⟩ _ _ ls hP hS (lv_sub hl [0, 2, 3] rfl)
          · exact absurd c_4 (nI_nm1 (by omega))
  exact L 0 (Nat.zero_le _) v ⟨rfl, hB⟩ _ _ ls hP hS (lv_sub hl [0, 1, 2] rfl)

set_option maxRecDepth 100000 in
set_option maxHeartbeats 4000000 in
theorem c_D_greatestLevel {l : Launch} {D : va_G} {ca : Nat → ClassId} {ad : Nat → Nat} (hJ : uJ 165 ad) (v : Nat → Nat → Nat → Int32) (π : Nat → Nat) (Q6 : Nat) (h6 : Q6 = 6) (ch : Nat) (hch : ch < 64) : uMi l y_D_greatestLevel b_D_greatestLevel 5 (some .int) 1 24 D clsAll (tysAll ca) 165 ad (xG ca ad) (v, π) [.ref (ad 0), .int (nI ch)] (fun r u => u = (v, π) ∧ r = gL v ch Q6) := by
  refine uStart (by decide) (Nat.le_of_ble_eq_true rfl) ?_
  intro p e s m below meth c ls S hr hlk hK hN hP hl
  have hU : ∀ w ∈ uWS, w ∈ (Cond.code y_D_greatestLevel b_D_greatestLevel 5 (some .int) :: uWS) := fun w h => List.mem_cons_of_mem _ h
  have hS : va_S (uA 165 ad s.heap.size) s.heap s.heap [] := va_S.rf
  have hl : lv_has ls 5 [(0, .ref (ad 0)), (1, .int (nI ch))] := hl
  refine lv_iconst (v := 0) S.1 S.2.1 d_D_greatestLevel_0 (by decide) ?_
  refine lv_istore_n (lv' := [(2, .int 0), (0, .ref (ad 0)), (1, .int (nI ch))]) S.1 S.2.1 d_D_greatestLevel_1 rfl hl (by decide) rfl (fun ls hl => ?_)
  refine lv_iconst (v := 0) S.1 S.2.1 d_D_greatestLevel_2 (by decide) ?_
  refine lv_istore_n (lv' := [(3, .int 0), (2, .int 0), (0, .ref (ad 0)), (1, .int (nI ch))]) S.1 S.2.1 d_D_greatestLevel_3 rfl hl (by decide) rfl (fun ls hl => ?_)
  have L : ∀ i, i ≤ Q6 → ∀ (H : Heap) (locs : List Loc) (ls : Array Slot), va_P D clsAll (uw 165 ad (xG ca ad (v, π))) H → va_S (uA 165 ad s.heap.size) s.heap H locs → lv_has ls 5 [(3, .int (nI i)), (2, .int (gL v ch i)), (0, .ref (ad 0)), (1, .int (nI ch))] → uGi 1 24 D clsAll 165 ad (xG ca ad) (fun r u => u = (v, π) ∧ r = gL v ch Q6) [.ref (ad 0), .int (nI ch)] p l e s m below meth c H locs 4 ls [] := by
    refine upTo Q6 ?_ ?_
    · intro H locs ls hP hS hl
      refine lv_iload_n S.1 S.2.1 d_D_greatestLevel_4 rfl (lv_at hl 0 rfl) ?_
      refine lv_bipush (v := 6) S.1 S.2.1 d_D_greatestLevel_5 (by decide) ?_
      refine lv_icmp_ge (tgt := 53) S.1 S.2.1 d_D_greatestLevel_7 (by decide) (fun c_h => ?_) (fun c_h => ?_)
      · refine lv_iload_n S.1 S.2.1 d_D_greatestLevel_53 rfl (lv_at hl 1 rfl) ?_
        exact uIret S hr hlk (v, π) hP hS (⟨rfl, rfl⟩) d_D_greatestLevel_54
      · exact absurd (by subst h6; exact nI_le (Nat.le_refl 6) (by decide)) c_h
    · intro i hi ih H locs ls hP hS hl
      refine lv_iload_n S.1 S.2.1 d_D_greatestLevel_4 rfl (lv_at hl 0 rfl) ?_
      refine lv_bipush (v := 6) S.1 S.2.1 d_D_greatestLevel_5 (by decide) ?_
      refine lv_icmp_ge (tgt := 53) S.1 S.2.1 d_D_greatestLevel_7 (by decide) (fun c_h => ?_) (fun c_h => ?_)
      · exact absurd c_h (nI_ge (b := 6) (by omega) (by decide))
      · refine lv_aload_n S.1 S.2.1 d_D_greatestLevel_10 rfl (lv_at hl 2 rfl) ?_
        refine ur_get (k := 0) (v := .ref (ad 6)) S hK hP (by decide) xg_desk rfl (fun w h => hU w (in_D w h)) 4 (by decide) (hU _ t1_162) rfl d_D_greatestLevel_11 ?_
        refine lv_iload_n S.1 S.2.1 d_D_greatestLevel_14 rfl (lv_at hl 0 rfl) ?_
        refine ur_aald (k := 6) (q := ad (129 + 6 * i)) (j := i) S hK hP (by decide) 3 xg_plys rfl rfl (by omega) (by decide) rfl d_D_greatestLevel_15 ?_
        refine lv_iload_n S.1 S.2.1 d_D_greatestLevel_16 rfl (lv_at hl 3 rfl) ?_
        refine lv_aload_n S.1 S.2.1 d_D_greatestLevel_17 rfl (lv_at hl 2 rfl) ?_
        refine ur_get (k := 0) (v := .int (v 5 0 0)) S hK hP (by decide) xg_desk rfl (fun w h => hU w (in_D w h)) 5 (by decide) (hU _ t1_163) rfl d_D_greatestLevel_18 ?_
        refine uVi (n := 2) (b := (129 + 6 * i)) (As := [.int (nI ch), .int (v 5 0 0)]) (rest := []) S hK hN hP hS (c_Y_levelAt hJ v π i ch (by omega) hch (v 5 0 0)) ⟨hU, t3_117, t3_137, t1_7, by decide +kernel, by decide, by decide⟩ t3_115 t3_116 (kb_Y (by omega)) (xg_ply (by omega)) rfl rfl rfl hl.1 rfl (Nat.le_of_ble_eq_true rfl) d_D_greatestLevel_21 ⟨Nat.le_of_ble_eq_true rfl, Nat.le_of_ble_eq_true rfl⟩ (fun r u H locs hp hP hS => ?_)
        obtain ⟨rfl, rfl⟩ := hp
        refine lv_aload_n S.1 S.2.1 d_D_greatestLevel_24 rfl (lv_at hl 2 rfl) ?_
        refine ur_get (k := 0) (v := .ref (ad 6)) S hK hP (by decide) xg_desk rfl (fun w h => hU w (in_D w h)) 4 (by decide) (hU _ t1_162) rfl d_D_greatestLevel_25 ?_
        refine lv_iload_n S.1 S.2.1 d_D_greatestLevel_28 rfl (lv_at hl 0 rfl) ?_
        refine ur_aald (k := 6) (q := ad (129 + 6 * i)) (j := i) S hK hP (by decide) 3 xg_plys rfl rfl (by omega) (by decide) rfl d_D_greatestLevel_29 ?_
        refine ur_getN (k := (129 + 6 * i)) (v := .int (v 26 i 0)) S hK hP (kb_Y (by omega)) (xg_ply (by omega)) rfl (fun w h => hU w (in_Y w h)) 6 (by decide) (hN _ t1_130) rfl d_D_greatestLevel_30 ?_
        refine lv_imul S.1 S.2.1 d_D_greatestLevel_33 ?_
        refine lv_sipush (v := 255) S.1 S.2.1 d_D_greatestLevel_34 (by decide) ?_
        refine lv_idiv S.1 S.2.1 d_D_greatestLevel_37 (by decide) ?_
        refine lv_topi (fun x_1 ex_1 => ?_)
        refine lv_istore (lv' := [(4, .int x_1), (3, .int (nI i)), (2, .int (gL v ch i)), (0, .ref (ad 0)), (1, .int (nI ch))]) S.1 S.2.1 d_D_greatestLevel_38 hl (by decide) rfl (fun ls hl => ?_)
        refine lv_iload_n S.1 S.2.1 d_D_greatestLevel_40 rfl (lv_at hl 2 rfl) ?_
        refine lv_iload S.1 S.2.1 d_D_greatestLevel_41 (lv_at hl 0 rfl) ?_
        refine va_mmax S.1 S.2.1 (S.2.2.1.trans hl.1.symm) S.2.2.2.1 (S.2.2.2.2 _ (hU _ t3_142)) (S.2.2.2.2 _ (hU _ t3_143)) (S.2.2.2.2 _ (hU _ t1_17)) (S.2.2.2.2 _ (hU _ t3_144)) (by decide) (by decide) (by decide) (by decide) d_D_greatestLevel_43 ?_
        refine lv_topi (fun x_2 ex_2 => ?_)
        refine lv_istore_n (lv' := [(2, .int x_2), (4, .int x_1), (3, .int (nI i)), (0, .ref (ad 0)), (1, .int (nI ch))]) S.1 S.2.1 d_D_greatestLevel_46 rfl hl (by decide) rfl (fun ls hl => ?_)
        refine lv_iinc (v := nI (i + 1)) (lv' := [(3, .int (nI (i + 1))), (2, .int x_2), (4, .int x_1), (0, .ref (ad 0)), (1, .int (nI ch))]) S.1 S.2.1 d_D_greatestLevel_47 hl (k := 2) rfl (nI_1 i) (by decide) rfl (fun ls hl => ?_)
        refine lv_goto (tgt := 4) S.1 S.2.1 d_D_greatestLevel_50 (by decide) ?_
        exact ih _ _ ls hP hS (by rw [show gL v ch (i + 1) = x_2 from by rw [ex_2, ex_1]; rfl]; exact lv_sub hl [0, 1, 3, 4] rfl)
  exact L 0 (Nat.zero_le _) _ _ ls hP hS (lv_sub hl [0, 1, 2, 3] rfl)

set_option maxRecDepth 100000 in
set_option maxHeartbeats 4000000 in
theorem c_D_latestLevel {l : Launch} {D : va_G} {ca : Nat → ClassId} {ad : Nat → Nat} (hJ : uJ 165 ad) (v : Nat → Nat → Nat → Int32) (π : Nat → Nat) (Q6 : Nat) (h6 : Q6 = 6) (ch : Nat) (hch : ch < 64) : uMi l y_D_latestLevel b_D_latestLevel 6 (some .int) 1 24 D clsAll (tysAll ca) 165 ad (xG ca ad) (v, π) [.ref (ad 0), .int (nI ch)] (fun r u => u = (v, π) ∧ r = (lL v ch Q6).1) := by
  refine uStart (by decide) (Nat.le_of_ble_eq_true rfl) ?_
  intro p e s m below meth c ls S hr hlk hK hN hP hl
  have hU : ∀ w ∈ uWS, w ∈ (Cond.code y_D_latestLevel b_D_latestLevel 6 (some .int) :: uWS) := fun w h => List.mem_cons_of_mem _ h
  have hS : va_S (uA 165 ad s.heap.size) s.heap s.heap [] := va_S.rf
  have hl : lv_has ls 6 [(0, .ref (ad 0)), (1, .int (nI ch))] := hl
  refine lv_iconst (v := 0) S.1 S.2.1 d_D_latestLevel_0 (by decide) ?_
  refine lv_istore_n (lv' := [(2, .int 0), (0, .ref (ad 0)), (1, .int (nI ch))]) S.1 S.2.1 d_D_latestLevel_1 rfl hl (by decide) rfl (fun ls hl => ?_)
  refine lv_iconst (v := 0) S.1 S.2.1 d_D_latestLevel_2 (by decide) ?_
  refine lv_istore_n (lv' := [(3, .int 0), (2, .int 0), (0, .ref (ad 0)), (1, .int (nI ch))]) S.1 S.2.1 d_D_latestLevel_3 rfl hl (by decide) rfl (fun ls hl => ?_)
  refine lv_iconst (v := 0) S.1 S.2.1 d_D_latestLevel_4 (by decide) ?_
  refine lv_istore (lv' := [(4, .int 0), (3, .int 0), (2, .int 0), (0, .ref (ad 0)), (1, .int (nI ch))]) S.1 S.2.1 d_D_latestLevel_5 hl (by decide) rfl (fun ls hl => ?_)
  have L : ∀ i, i ≤ Q6 → ∀ (H : Heap) (locs : List Loc) (ls : Array Slot), va_P D clsAll (uw 165 ad (xG ca ad (v, π))) H → va_S (uA 165 ad s.heap.size) s.heap H locs → lv_has ls 6 [(4, .int (nI i)), (2, .int ((lL v ch i).1)), (3, .int ((lL v ch i).2)), (0, .ref (ad 0)), (1, .int (nI ch))] → uGi 1 24 D clsAll 165 ad (xG ca ad) (fun r u => u = (v, π) ∧ r = (lL v ch Q6).1) [.ref (ad 0), .int (nI ch)] p l e s m below meth c H locs 7 ls [] := by
    refine upTo Q6 ?_ ?_
    · intro H locs ls hP hS hl
      refine lv_iload S.1 S.2.1 d_D_latestLevel_7 (lv_at hl 0 rfl) ?_
      refine lv_bipush (v := 6) S.1 S.2.1 d_D_latestLevel_9 (by decide) ?_
      refine lv_icmp_ge (tgt := 64) S.1 S.2.1 d_D_latestLevel_11 (by decide) (fun c_h => ?_) (fun c_h => ?_)
      · refine lv_iload_n S.1 S.2.1 d_D_latestLevel_64 rfl (lv_at hl 1 rfl) ?_
        exact uIret S hr hlk (v, π) hP hS (⟨rfl, rfl⟩) d_D_latestLevel_65
      · exact absurd (by subst h6; exact nI_le (Nat.le_refl 6) (by decide)) c_h
    · intro i hi ih H locs ls hP hS hl
      refine lv_iload S.1 S.2.1 d_D_latestLevel_7 (lv_at hl 0 rfl) ?_
      refine lv_bipush (v := 6) S.1 S.2.1 d_D_latestLevel_9 (by decide) ?_
      refine lv_icmp_ge (tgt := 64) S.1 S.2.1 d_D_latestLevel_11 (by decide) (fun c_h => ?_) (fun c_h => ?_)
      · exact absurd c_h (nI_ge (b := 6) (by omega) (by decide))
      · refine lv_aload_n S.1 S.2.1 d_D_latestLevel_14 rfl (lv_at hl 3 rfl) ?_
        refine ur_get (k := 0) (v := .ref (ad 6)) S hK hP (by decide) xg_desk rfl (fun w h => hU w (in_D w h)) 4 (by decide) (hU _ t1_162) rfl d_D_latestLevel_15 ?_
        refine lv_iload S.1 S.2.1 d_D_latestLevel_18 (lv_at hl 0 rfl) ?_
        refine ur_aald (k := 6) (q := ad (129 + 6 * i)) (j := i) S hK hP (by decide) 3 xg_plys rfl rfl (by omega) (by decide) rfl d_D_latestLevel_20 ?_
        refine lv_iload_n S.1 S.2.1 d_D_latestLevel_21 rfl (lv_at hl 4 rfl) ?_
        refine uVi (n := 1) (b := (129 + 6 * i)) (As := [.int (nI ch)]) (rest := []) S hK hN hP hS (c_Y_lookTick hJ v π i ch (by omega) hch) ⟨hU, t3_136, t3_133, t1_7, by decide +kernel, by decide, by decide⟩ t3_134 t3_135 (kb_Y (by omega)) (xg_ply (by omega)) rfl rfl rfl hl.1 rfl (Nat.le_of_ble_eq_true rfl) d_D_latestLevel_22 ⟨Nat.le_of_ble_eq_true rfl, Nat.le_of_ble_eq_true rfl⟩ (fun r u H locs hp hP hS => ?_)
        obtain ⟨rfl, rfl⟩ := hp
        refine lv_istore (lv' := [(5, .int (v 24 i ch)), (4, .int (nI i)), (2, .int ((lL v ch i).1)), (3, .int ((lL v ch i).2)), (0, .ref (ad 0)), (1, .int (nI ch))]) S.1 S.2.1 d_D_latestLevel_25 hl (by decide) rfl (fun ls hl => ?_)
        refine lv_iload S.1 S.2.1 d_D_latestLevel_27 (lv_at hl 0 rfl) ?_
        refine lv_iconst (v := (-1)) S.1 S.2.1 d_D_latestLevel_29 (by decide) ?_
        refine lv_icmp_eq (tgt := 58) S.1 S.2.1 d_D_latestLevel_30 (by decide) (fun c_1 => ?_) (fun c_1 => ?_)
        · refine lv_iinc (v := nI (i + 1)) (lv' := [(4, .int (nI (i + 1))), (5, .int (v 24 i ch)), (2, .int ((lL v ch i).1)), (3, .int ((lL v ch i).2)), (0, .ref (ad 0)), (1, .int (nI ch))]) S.1 S.2.1 d_D_latestLevel_58 hl (k := 1) rfl (nI_1 i) (by decide) rfl (fun ls hl => ?_)
          refine lv_goto (tgt := 7) S.1 S.2.1 d_D_latestLevel_61 (by decide) ?_
          exact ih _ _ ls hP hS (by rw [show lL v ch (i + 1) = lL v ch i from by rw [lL, if_pos c_1]]; exact lv_sub hl [0, 2, 3, 4, 5] rfl)
        · refine lv_iload S.1 S.2.1 d_D_latestLevel_33 (lv_at hl 0 rfl) ?_
          refine lv_iload_n S.1 S.2.1 d_D_latestLevel_35 rfl (lv_at hl 3 rfl) ?_
          refine lv_icmp_lt (tgt := 58) S.1 S.2.1 d_D_latestLevel_36 (by decide) (fun c_2 => ?_) (fun c_2 => ?_)
          · refine lv_iinc (v := nI (i + 1)) (lv' := [(4, .int (nI (i + 1))), (5, .int (v 24 i ch)), (2, .int ((lL v ch i).1)), (3, .int ((lL v ch i).2)), (0, .ref (ad 0)), (1, .int (nI ch))]) S.1 S.2.1 d_D_latestLevel_58 hl (k := 1) rfl (nI_1 i) (by decide) rfl (fun ls hl => ?_)
            refine lv_goto (tgt := 7) S.1 S.2.1 d_D_latestLevel_61 (by decide) ?_
            exact ih _ _ ls hP hS (by rw [show lL v ch (i + 1) = lL v ch i from by rw [lL, if_neg c_1, if_pos c_2]]; exact lv_sub hl [0, 2, 3, 4, 5] rfl)
          · refine lv_iload S.1 S.2.1 d_D_latestLevel_39 (lv_at hl 0 rfl) ?_
            refine lv_istore_n (lv' := [(3, .int (v 24 i ch)), (5, .int (v 24 i ch)), (4, .int (nI i)), (2, .int ((lL v ch i).1)), (0, .ref (ad 0)), (1, .int (nI ch))]) S.1 S.2.1 d_D_latestLevel_41 rfl hl (by decide) rfl (fun ls hl => ?_)
            refine lv_aload_n S.1 S.2.1 d_D_latestLevel_42 rfl (lv_at hl 4 rfl) ?_
            refine ur_get (k := 0) (v := .ref (ad 6)) S hK hP (by decide) xg_desk rfl (fun w h => hU w (in_D w h)) 4 (by decide) (hU _ t1_162) rfl d_D_latestLevel_43 ?_
            refine lv_iload S.1 S.2.1 d_D_latestLevel_46 (lv_at hl 2 rfl) ?_
            refine ur_aald (k := 6) (q := ad (129 + 6 * i)) (j := i) S hK hP (by decide) 3 xg_plys rfl rfl (by omega) (by decide) rfl d_D_latestLevel_48 ?_
            refine lv_iload_n S.1 S.2.1 d_D_latestLevel_49 rfl (lv_at hl 5 rfl) ?_
            refine lv_aload_n S.1 S.2.1 d_D_latestLevel_50 rfl (lv_at hl 4 rfl) ?_
            refine ur_get (k := 0) (v := .int (v 5 0 0)) S hK hP (by decide) xg_desk rfl (fun w h => hU w (in_D w h)) 5 (by decide) (hU _ t1_163) rfl d_D_latestLevel_51 ?_
            refine uVi (n := 2) (b := (129 + 6 * i)) (As := [.int (nI ch), .int (v 5 0 0)]) (rest := []) S hK hN hP hS (c_Y_levelAt hJ v π i ch (by omega) hch (v 5 0 0)) ⟨hU, t3_117, t3_137, t1_7, by decide +kernel, by decide, by decide⟩ t3_115 t3_116 (kb_Y (by omega)) (xg_ply (by omega)) rfl rfl rfl hl.1 rfl (Nat.le_of_ble_eq_true rfl) d_D_latestLevel_54 ⟨Nat.le_of_ble_eq_true rfl, Nat.le_of_ble_eq_true rfl⟩ (fun r u H locs hp hP hS => ?_)
            obtain ⟨rfl, rfl⟩ := hp
            refine lv_istore_n (lv' := [(2, .int (vAt v i ch (v 5 0 0))), (3, .int (v 24 i ch)), (5, .int (v 24 i ch)), (4, .int (nI i)), (0, .ref (ad 0)), (1, .int (nI ch))]) S.1 S.2.1 d_D_latestLevel_57 rfl hl (by decide) rfl (fun ls hl => ?_)
            refine lv_iinc (v := nI (i + 1)) (lv' := [(4, .int (nI (i + 1))), (2, .int (vAt v i ch (v 5 0 0))), (3, .int (v 24 i ch)), (5, .int (v 24 i ch)), (0, .ref (ad 0)), (1, .int (nI ch))]) S.1 S.2.1 d_D_latestLevel_58 hl (k := 3) rfl (nI_1 i) (by decide) rfl (fun ls hl => ?_)
            refine lv_goto (tgt := 7) S.1 S.2.1 d_D_latestLevel_61 (by decide) ?_
            exact ih _ _ ls hP hS (by rw [show lL v ch (i + 1) = (vAt v i ch (v 5 0 0), v 24 i ch) from by rw [lL, if_neg c_1, if_neg c_2]]; exact lv_sub hl [0, 1, 2, 4, 5] rfl)
  exact L 0 (Nat.zero_le _) _ _ ls hP hS (lv_sub hl [0, 2, 1, 3, 4] rfl)
