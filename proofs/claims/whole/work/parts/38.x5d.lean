/-! unblockCue -/
set_option maxRecDepth 100000 in
set_option maxHeartbeats 4000000 in
theorem c_B_unblockCue {l : Launch} {D : va_G} {ca : Nat → ClassId} {ad : Nat → Nat} (hJ : uJ 165 ad) (v : Nat → Nat → Nat → Int32) (π : Nat → Nat) (M : Nat) (hM : M = 64) (n : Nat) (hB : xBk v π n) (q : Nat) (hq : q < n) : uMi l y_B_unblockCue b_B_unblockCue 5 (some .int) 3 68 D clsAll (tysAll ca) 165 ad (xG ca ad) (v, π) [.ref (ad 4), .int (nI q)] (fun r u => u = (ubs v π q (blwO v π n (v 10 (π q) 0) (v 11 (π q) 0)) M, π) ∧ r = ubs v π q (blwO v π n (v 10 (π q) 0) (v 11 (π q) 0)) M 16 (π q) 0) := by
  refine uStart (by decide) (Nat.le_of_ble_eq_true rfl) ?_
  intro p e s m below meth c ls S hr hlk hK hN hP hl
  have hU : ∀ w ∈ uWS, w ∈ (Cond.code y_B_unblockCue b_B_unblockCue 5 (some .int) :: uWS) := fun w h => List.mem_cons_of_mem _ h
  have hS : va_S (uA 165 ad s.heap.size) s.heap s.heap [] := va_S.rf
  have hl : lv_has ls 5 [(0, .ref (ad 4)), (1, .int (nI q))] := hl
  have hn40 : n ≤ 40 := hB.2.1
  refine lv_aload_n S.1 S.2.1 d_B_unblockCue_0 rfl (lv_at hl 0 rfl) ?_
  refine ur_get (k := 4) (v := .ref (ad 5)) S hK hP (by decide) xg_book rfl (fun w h => hU w (in_B w h)) 0 (by decide) (hU _ t1_106) rfl d_B_unblockCue_1 ?_
  refine lv_iload_n S.1 S.2.1 d_B_unblockCue_4 rfl (lv_at hl 1 rfl) ?_
  refine ur_aald (k := 5) (q := ad (89 + π q)) (j := q) S hK hP (by decide) 2 xg_cues rfl rfl (by omega) (by decide) rfl d_B_unblockCue_5 ?_
  refine ur_getN (k := (89 + (π q))) (v := .ref (ad (7 + 2 * (π q)))) S hK hP (kb_C (hB.2.2 _ (by omega))) (xg_cue (hB.2.2 _ (by omega))) rfl (fun w h => hU w (in_C w h)) 0 (by decide) (hN _ t1_74) rfl d_B_unblockCue_6 ?_
  refine lv_astore_n (lv' := [(2, .ref (ad (7 + 2 * (π q)))), (0, .ref (ad 4)), (1, .int (nI q))]) S.1 S.2.1 d_B_unblockCue_9 rfl hl (by decide) rfl (fun ls hl => ?_)
  refine lv_aload_n S.1 S.2.1 d_B_unblockCue_10 rfl (lv_at hl 1 rfl) ?_
  refine lv_aload_n S.1 S.2.1 d_B_unblockCue_11 rfl (lv_at hl 1 rfl) ?_
  refine ur_get (k := 4) (v := .ref (ad 5)) S hK hP (by decide) xg_book rfl (fun w h => hU w (in_B w h)) 0 (by decide) (hU _ t1_106) rfl d_B_unblockCue_12 ?_
  refine lv_iload_n S.1 S.2.1 d_B_unblockCue_15 rfl (lv_at hl 2 rfl) ?_
  refine ur_aald (k := 5) (q := ad (89 + π q)) (j := q) S hK hP (by decide) 2 xg_cues rfl rfl (by omega) (by decide) rfl d_B_unblockCue_16 ?_
  refine ur_getN (k := (89 + (π q))) (v := .int (v 10 (π q) 0)) S hK hP (kb_C (hB.2.2 _ (by omega))) (xg_cue (hB.2.2 _ (by omega))) rfl (fun w h => hU w (in_C w h)) 1 (by decide) (hN _ t1_76) rfl d_B_unblockCue_17 ?_
  refine lv_aload_n S.1 S.2.1 d_B_unblockCue_20 rfl (lv_at hl 1 rfl) ?_
  refine ur_get (k := 4) (v := .ref (ad 5)) S hK hP (by decide) xg_book rfl (fun w h => hU w (in_B w h)) 0 (by decide) (hU _ t1_106) rfl d_B_unblockCue_21 ?_
  refine lv_iload_n S.1 S.2.1 d_B_unblockCue_24 rfl (lv_at hl 2 rfl) ?_
  refine ur_aald (k := 5) (q := ad (89 + π q)) (j := q) S hK hP (by decide) 2 xg_cues rfl rfl (by omega) (by decide) rfl d_B_unblockCue_25 ?_
  refine ur_getN (k := (89 + (π q))) (v := .int (v 11 (π q) 0)) S hK hP (kb_C (hB.2.2 _ (by omega))) (xg_cue (hB.2.2 _ (by omega))) rfl (fun w h => hU w (in_C w h)) 2 (by decide) (hN _ t1_78) rfl d_B_unblockCue_26 ?_
  refine uVi (n := 2) (b := 4) (As := [.int (v 10 (π q) 0), .int (v 11 (π q) 0)]) (rest := []) S hK hN hP hS (c_B_placeBelow hJ v π n hB (v 10 (π q) 0) (v 11 (π q) 0)) ⟨hU, t3_19, t3_16, t1_5, by decide +kernel, by decide, by decide⟩ t3_17 t3_18 (by decide) xg_book rfl rfl rfl hl.1 rfl (Nat.le_of_ble_eq_true rfl) d_B_unblockCue_29 ⟨Nat.le_of_ble_eq_true rfl, Nat.le_of_ble_eq_true rfl⟩ (fun r u H locs hp hP hS => ?_)
  obtain ⟨rfl, rfl⟩ := hp
  refine lv_istore_n (lv' := [(3, .int (oI (blwO v π n (v 10 (π q) 0) (v 11 (π q) 0)))), (2, .ref (ad (7 + 2 * (π q)))), (0, .ref (ad 4)), (1, .int (nI q))]) S.1 S.2.1 d_B_unblockCue_32 rfl hl (by decide) rfl (fun ls hl => ?_)
  refine lv_iconst (v := 0) S.1 S.2.1 d_B_unblockCue_33 (by decide) ?_
  refine lv_istore (lv' := [(4, .int 0), (3, .int (oI (blwO v π n (v 10 (π q) 0) (v 11 (π q) 0)))), (2, .ref (ad (7 + 2 * (π q)))), (0, .ref (ad 4)), (1, .int (nI q))]) S.1 S.2.1 d_B_unblockCue_34 hl (by decide) rfl (fun ls hl => ?_)
  have L : ∀ i, i ≤ M → ∀ (H : Heap) (locs : List Loc) (ls : Array Slot), va_P D clsAll (uw 165 ad (xG ca ad ((ubs v π q (blwO v π n (v 10 (π q) 0) (v 11 (π q) 0)) i), π))) H → va_S (uA 165 ad s.heap.size) s.heap H locs → lv_has ls 5 [(4, .int (nI i)), (3, .int (oI (blwO v π n (v 10 (π q) 0) (v 11 (π q) 0)))), (2, .ref (ad (7 + 2 * π q))), (0, .ref (ad 4)), (1, .int (nI q))] → uGi 3 68 D clsAll 165 ad (xG ca ad) (fun r u => u = (ubs v π q (blwO v π n (v 10 (π q) 0) (v 11 (π q) 0)) M, π) ∧ r = ubs v π q (blwO v π n (v 10 (π q) 0) (v 11 (π q) 0)) M 16 (π q) 0) [.ref (ad 4), .int (nI q)] p l e s m below meth c H locs 36 ls [] := by
    refine upTo M ?_ ?_
    · intro H locs ls hP hS hl
      refine lv_iload S.1 S.2.1 d_B_unblockCue_36 (lv_at hl 0 rfl) ?_
      refine lv_bipush (v := 64) S.1 S.2.1 d_B_unblockCue_38 (by decide) ?_
      refine lv_icmp_ge (tgt := 74) S.1 S.2.1 d_B_unblockCue_40 (by decide) (fun c_h => ?_) (fun c_h => ?_)
      · refine lv_aload_n S.1 S.2.1 d_B_unblockCue_74 rfl (lv_at hl 2 rfl) ?_
        refine ur_getN (k := (7 + 2 * (π q))) (v := .int ((ubs v π q (blwO v π n (v 10 (π q) 0) (v 11 (π q) 0)) M) 16 (π q) 0)) S hK hP (kb_V (Nat.lt_succ_of_lt (hB.2.2 _ (by omega)))) (xg_row (Nat.lt_succ_of_lt (hB.2.2 _ (by omega)))) rfl (fun w h => hU w (in_V w h)) 1 (by decide) (hN _ t1_37) rfl d_B_unblockCue_75 ?_
        exact uIret S hr hlk ((ubs v π q (blwO v π n (v 10 (π q) 0) (v 11 (π q) 0)) M), π) hP hS (⟨rfl, rfl⟩) d_B_unblockCue_78
      · exact absurd (by subst hM; exact nI_le (Nat.le_refl 64) (by decide)) c_h
    · intro i hi ih H locs ls hP hS hl
      have hB := ubs_bk (q := q) (B := blwO v π n (v 10 (π q) 0) (v 11 (π q) 0)) hB i
      refine lv_iload S.1 S.2.1 d_B_unblockCue_36 (lv_at hl 0 rfl) ?_
      refine lv_bipush (v := 64) S.1 S.2.1 d_B_unblockCue_38 (by decide) ?_
      refine lv_icmp_ge (tgt := 74) S.1 S.2.1 d_B_unblockCue_40 (by decide) (fun c_h => ?_) (fun c_h => ?_)
      · exact absurd c_h (nI_ge (b := 64) (by omega) (by decide))
      · refine lv_aload_n S.1 S.2.1 d_B_unblockCue_43 rfl (lv_at hl 2 rfl) ?_
        refine lv_iload S.1 S.2.1 d_B_unblockCue_44 (lv_at hl 0 rfl) ?_
        refine uVi (n := 1) (b := (7 + 2 * (π q))) (As := [.int (nI i)]) (rest := []) S hK hN hP hS (c_V_valueAt hJ (ubs v π q (blwO v π n (v 10 (π q) 0) (v 11 (π q) 0)) i) π (π q) i (Nat.lt_succ_of_lt (hB.2.2 _ (by omega))) (by omega)) ⟨hU, t2_162, t2_159, t1_2, by decide +kernel, by decide, by decide⟩ t2_160 t2_161 (kb_V (Nat.lt_succ_of_lt (hB.2.2 _ (by omega)))) (xg_row (Nat.lt_succ_of_lt (hB.2.2 _ (by omega)))) rfl rfl rfl hl.1 rfl (Nat.le_of_ble_eq_true rfl) d_B_unblockCue_46 ⟨Nat.le_of_ble_eq_true rfl, Nat.le_of_ble_eq_true rfl⟩ (fun r u H locs hp hP hS => ?_)
        obtain ⟨rfl, rfl⟩ := hp
        refine lv_aload_n S.1 S.2.1 d_B_unblockCue_49 rfl (lv_at hl 3 rfl) ?_
        refine lv_iload_n S.1 S.2.1 d_B_unblockCue_50 rfl (lv_at hl 1 rfl) ?_
        refine lv_iload S.1 S.2.1 d_B_unblockCue_51 (lv_at hl 0 rfl) ?_
        refine uVi (n := 2) (b := 4) (As := [.int (oI (blwO v π n (v 10 (π q) 0) (v 11 (π q) 0))), .int (nI i)]) (rest := [.int ((ubs v π q (blwO v π n (v 10 (π q) 0) (v 11 (π q) 0)) i) 17 (π q) i)]) S hK hN hP hS (c_B_trackedAt hJ (ubs v π q (blwO v π n (v 10 (π q) 0) (v 11 (π q) 0)) i) π n hB (blwO v π n (v 10 (π q) 0) (v 11 (π q) 0)) (fun p h => blwO_lt _ h) i (by omega)) ⟨hU, t2_154, t2_151, t1_5, by decide +kernel, by decide, by decide⟩ t2_152 t2_153 (by decide) xg_book rfl rfl rfl hl.1 rfl (Nat.le_of_ble_eq_true rfl) d_B_unblockCue_53 ⟨Nat.le_of_ble_eq_true rfl, Nat.le_of_ble_eq_true rfl⟩ (fun r u H locs hp hP hS => ?_)
        obtain ⟨rfl, rfl⟩ := hp
        refine uSi (n := 1) (As := [.int (trk (ubs v π q (blwO v π n (v 10 (π q) 0) (v 11 (π q) 0)) i) π i (blwO v π n (v 10 (π q) 0) (v 11 (π q) 0)))]) (rest := [.int ((ubs v π q (blwO v π n (v 10 (π q) 0) (v 11 (π q) 0)) i) 17 (π q) i)]) S hK hN hP hS (c_B_orUnset hJ (ubs v π q (blwO v π n (v 10 (π q) 0) (v 11 (π q) 0)) i) π (trk (ubs v π q (blwO v π n (v 10 (π q) 0) (v 11 (π q) 0)) i) π i (blwO v π n (v 10 (π q) 0) (v 11 (π q) 0)))) ⟨hU, t2_165, t2_163, t1_5, by decide +kernel, by decide, by decide⟩ t2_164 rfl hl.1 rfl (Nat.le_of_ble_eq_true rfl) d_B_unblockCue_56 ⟨Nat.le_of_ble_eq_true rfl, Nat.le_of_ble_eq_true rfl⟩ (fun r u H locs hp hP hS => ?_)
        obtain ⟨rfl, rfl⟩ := hp
        refine lv_icmp_ne (tgt := 68) S.1 S.2.1 d_B_unblockCue_59 (by decide) (fun c_e => ?_) (fun c_e => ?_)
        · refine lv_iinc (v := nI (i + 1)) (lv' := [(4, .int (nI (i + 1))), (3, .int (oI (blwO v π n (v 10 (π q) 0) (v 11 (π q) 0)))), (2, .ref (ad (7 + 2 * π q))), (0, .ref (ad 4)), (1, .int (nI q))]) S.1 S.2.1 d_B_unblockCue_68 hl (k := 0) rfl (nI_1 i) (by decide) rfl (fun ls hl => ?_)
          refine lv_goto (tgt := 36) S.1 S.2.1 d_B_unblockCue_71 (by decide) ?_
          exact ih _ _ ls (by rw [ubs, if_neg c_e]; exact hP) hS (lv_sub hl [0, 1, 2, 3, 4] rfl)
        · refine lv_aload_n S.1 S.2.1 d_B_unblockCue_62 rfl (lv_at hl 2 rfl) ?_
          refine lv_iload S.1 S.2.1 d_B_unblockCue_63 (lv_at hl 0 rfl) ?_
          refine uVv (n := 1) (b := (7 + 2 * (π q))) (As := [.int (nI i)]) (rest := []) S hK hN hP hS (c_V_drop hJ (ubs v π q (blwO v π n (v 10 (π q) 0) (v 11 (π q) 0)) i) π (π q) i (Nat.lt_succ_of_lt (hB.2.2 _ (by omega))) (by omega)) ⟨hU, t1_216, t3_20, t1_2, by decide +kernel, by decide, by decide⟩ t1_214 t1_215 (kb_V (Nat.lt_succ_of_lt (hB.2.2 _ (by omega)))) (xg_row (Nat.lt_succ_of_lt (hB.2.2 _ (by omega)))) rfl rfl rfl hl.1 rfl (Nat.le_of_ble_eq_true rfl) d_B_unblockCue_65 ⟨Nat.le_of_ble_eq_true rfl, Nat.le_of_ble_eq_true rfl⟩ (fun u H locs hp hP hS => ?_)
          obtain rfl := hp
          refine lv_iinc (v := nI (i + 1)) (lv' := [(4, .int (nI (i + 1))), (3, .int (oI (blwO v π n (v 10 (π q) 0) (v 11 (π q) 0)))), (2, .ref (ad (7 + 2 * π q))), (0, .ref (ad 4)), (1, .int (nI q))]) S.1 S.2.1 d_B_unblockCue_68 hl (k := 0) rfl (nI_1 i) (by decide) rfl (fun ls hl => ?_)
          refine lv_goto (tgt := 36) S.1 S.2.1 d_B_unblockCue_71 (by decide) ?_
          exact ih _ _ ls (by rw [ubs, if_pos c_e]; exact hP) hS (lv_sub hl [0, 1, 2, 3, 4] rfl)
  exact L 0 (Nat.zero_le _) _ _ ls hP hS (lv_sub hl [0, 1, 2, 3, 4] rfl)
