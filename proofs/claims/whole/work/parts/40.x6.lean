/-! The class: delete, record (printed by wip/gen/gen_x6.py) -/
set_option maxRecDepth 100000 in
set_option maxHeartbeats 4000000 in
theorem c_B_deleteCue {l : Launch} {D : va_G} {ca : Nat → ClassId} {ad : Nat → Nat} (hJ : uJ 165 ad) (v : Nat → Nat → Nat → Int32) (π : Nat → Nat) (M : Nat) (hM : M = 64) (n : Nat) (hB : xBk v π n) (q : Nat) (hq : q < n) (x2 : Int32) : uMi l y_B_deleteCue b_B_deleteCue 5 (some .int) 4 92 D clsAll (tysAll ca) 165 ad (xG ca ad) (v, π) [.ref (ad 4), .int (nI q), .int x2] (fun r u => u = (vOut (kps v π (π q) M (delK v π n q x2)) n, pOut π n q) ∧ r = kps v π (π q) M (delK v π n q x2) 16 (π q) 0) := by
  refine uStart (by decide) (Nat.le_of_ble_eq_true rfl) ?_
  intro p e s m below meth c ls S hr hlk hK hN hP hl
  have hU : ∀ w ∈ uWS, w ∈ (Cond.code y_B_deleteCue b_B_deleteCue 5 (some .int) :: uWS) := fun w h => List.mem_cons_of_mem _ h
  have hS : va_S (uA 165 ad s.heap.size) s.heap s.heap [] := va_S.rf
  have hl : lv_has ls 5 [(0, .ref (ad 4)), (1, .int (nI q)), (2, .int x2)] := hl
  have hn40 : n ≤ 40 := hB.2.1
  refine lv_aload_n S.1 S.2.1 d_B_deleteCue_0 rfl (lv_at hl 0 rfl) ?_
  refine ur_get (k := 4) (v := .ref (ad 5)) S hK hP (by decide) xg_book rfl (fun w h => hU w (in_B w h)) 0 (by decide) (hU _ t1_106) rfl d_B_deleteCue_1 ?_
  refine lv_iload_n S.1 S.2.1 d_B_deleteCue_4 rfl (lv_at hl 1 rfl) ?_
  refine ur_aald (k := 5) (q := ad (89 + π q)) (j := q) S hK hP (by decide) 2 xg_cues rfl rfl (by omega) (by decide) rfl d_B_deleteCue_5 ?_
  refine ur_getN (k := (89 + (π q))) (v := .ref (ad (7 + 2 * (π q)))) S hK hP (kb_C (hB.2.2 _ (by omega))) (xg_cue (hB.2.2 _ (by omega))) rfl (fun w h => hU w (in_C w h)) 0 (by decide) (hN _ t1_74) rfl d_B_deleteCue_6 ?_
  refine lv_astore_n (lv' := [(3, .ref (ad (7 + 2 * (π q)))), (0, .ref (ad 4)), (1, .int (nI q)), (2, .int x2)]) S.1 S.2.1 d_B_deleteCue_9 rfl hl (by decide) rfl (fun ls hl => ?_)
  refine lv_aload_n S.1 S.2.1 d_B_deleteCue_10 rfl (lv_at hl 1 rfl) ?_
  refine lv_aload_n S.1 S.2.1 d_B_deleteCue_11 rfl (lv_at hl 1 rfl) ?_
  refine ur_get (k := 4) (v := .ref (ad 5)) S hK hP (by decide) xg_book rfl (fun w h => hU w (in_B w h)) 0 (by decide) (hU _ t1_106) rfl d_B_deleteCue_12 ?_
  refine lv_iload_n S.1 S.2.1 d_B_deleteCue_15 rfl (lv_at hl 2 rfl) ?_
  refine ur_aald (k := 5) (q := ad (89 + π q)) (j := q) S hK hP (by decide) 2 xg_cues rfl rfl (by omega) (by decide) rfl d_B_deleteCue_16 ?_
  refine ur_getN (k := (89 + (π q))) (v := .int (v 10 (π q) 0)) S hK hP (kb_C (hB.2.2 _ (by omega))) (xg_cue (hB.2.2 _ (by omega))) rfl (fun w h => hU w (in_C w h)) 1 (by decide) (hN _ t1_76) rfl d_B_deleteCue_17 ?_
  refine lv_aload_n S.1 S.2.1 d_B_deleteCue_20 rfl (lv_at hl 1 rfl) ?_
  refine ur_get (k := 4) (v := .ref (ad 5)) S hK hP (by decide) xg_book rfl (fun w h => hU w (in_B w h)) 0 (by decide) (hU _ t1_106) rfl d_B_deleteCue_21 ?_
  refine lv_iload_n S.1 S.2.1 d_B_deleteCue_24 rfl (lv_at hl 2 rfl) ?_
  refine ur_aald (k := 5) (q := ad (89 + π q)) (j := q) S hK hP (by decide) 2 xg_cues rfl rfl (by omega) (by decide) rfl d_B_deleteCue_25 ?_
  refine ur_getN (k := (89 + (π q))) (v := .int (v 11 (π q) 0)) S hK hP (kb_C (hB.2.2 _ (by omega))) (xg_cue (hB.2.2 _ (by omega))) rfl (fun w h => hU w (in_C w h)) 2 (by decide) (hN _ t1_78) rfl d_B_deleteCue_26 ?_
  refine uVi (n := 2) (b := 4) (As := [.int (v 10 (π q) 0), .int (v 11 (π q) 0)]) (rest := []) S hK hN hP hS (c_B_placeAbove hJ v π n hB (v 10 (π q) 0) (v 11 (π q) 0)) ⟨hU, t2_127, t2_124, t1_5, by decide +kernel, by decide, by decide⟩ t2_125 t2_126 (by decide) xg_book rfl rfl rfl hl.1 rfl (Nat.le_of_ble_eq_true rfl) d_B_deleteCue_29 ⟨Nat.le_of_ble_eq_true rfl, Nat.le_of_ble_eq_true rfl⟩ (fun r u H locs hp hP hS => ?_)
  obtain ⟨rfl, rfl⟩ := hp
  rcases hX_1 : abvO v π n (v 10 (π q) 0) (v 11 (π q) 0) with _ | p_2
  · refine lv_istore (lv' := [(4, .int (-1)), (3, .ref (ad (7 + 2 * (π q)))), (0, .ref (ad 4)), (1, .int (nI q)), (2, .int x2)]) S.1 S.2.1 d_B_deleteCue_32 hl (by decide) rfl (fun ls hl => ?_)
    refine lv_iload_n S.1 S.2.1 d_B_deleteCue_34 rfl (lv_at hl 4 rfl) ?_
    refine lv_if_eq (tgt := 51) S.1 S.2.1 d_B_deleteCue_35 (by decide) (fun c_k => ?_) (fun c_k => ?_)
    · refine lv_aload_n S.1 S.2.1 d_B_deleteCue_51 rfl (lv_at hl 2 rfl) ?_
      refine lv_iload_n S.1 S.2.1 d_B_deleteCue_52 rfl (lv_at hl 3 rfl) ?_
      refine uVv (n := 1) (b := 4) (As := [.int (nI q)]) (rest := []) S hK hN hP hS (c_B_takeOut hJ v π n hB q (by omega)) ⟨hU, t3_0, t2_237, t1_5, by decide +kernel, by decide, by decide⟩ t2_239 tp_7 (by decide) xg_book rfl rfl rfl hl.1 rfl (Nat.le_of_ble_eq_true rfl) d_B_deleteCue_53 ⟨Nat.le_of_ble_eq_true rfl, Nat.le_of_ble_eq_true rfl⟩ (fun u H locs hp hP hS => ?_)
      obtain rfl := hp
      refine lv_aload_n S.1 S.2.1 d_B_deleteCue_56 rfl (lv_at hl 1 rfl) ?_
      refine ur_getN (k := (7 + 2 * (π q))) (v := .int ((vOut v n) 16 (π q) 0)) S hK hP (kb_V (Nat.lt_succ_of_lt (hB.2.2 _ (by omega)))) (xg_row (Nat.lt_succ_of_lt (hB.2.2 _ (by omega)))) rfl (fun w h => hU w (in_V w h)) 1 (by decide) (hN _ t1_37) rfl d_B_deleteCue_57 ?_
      have e9 : delK v π n q x2 = none := by unfold delK; first | rw [if_pos c_k] | rw [if_neg c_k, hX_1]
      exact uIret S hr hlk ((vOut v n), (pOut π n q)) hP hS (by rw [e9]; exact ⟨rfl, by simp [vOut, up3_f, kps]⟩) d_B_deleteCue_60
    · refine lv_iload S.1 S.2.1 d_B_deleteCue_38 (lv_at hl 0 rfl) ?_
      refine lv_iconst (v := (-1)) S.1 S.2.1 d_B_deleteCue_40 (by decide) ?_
      refine lv_icmp_eq (tgt := 51) S.1 S.2.1 d_B_deleteCue_41 (by decide) (fun c_3 => ?_) (fun c_3 => ?_)
      · refine lv_aload_n S.1 S.2.1 d_B_deleteCue_51 rfl (lv_at hl 2 rfl) ?_
        refine lv_iload_n S.1 S.2.1 d_B_deleteCue_52 rfl (lv_at hl 3 rfl) ?_
        refine uVv (n := 1) (b := 4) (As := [.int (nI q)]) (rest := []) S hK hN hP hS (c_B_takeOut hJ v π n hB q (by omega)) ⟨hU, t3_0, t2_237, t1_5, by decide +kernel, by decide, by decide⟩ t2_239 tp_7 (by decide) xg_book rfl rfl rfl hl.1 rfl (Nat.le_of_ble_eq_true rfl) d_B_deleteCue_53 ⟨Nat.le_of_ble_eq_true rfl, Nat.le_of_ble_eq_true rfl⟩ (fun u H locs hp hP hS => ?_)
        obtain rfl := hp
        refine lv_aload_n S.1 S.2.1 d_B_deleteCue_56 rfl (lv_at hl 1 rfl) ?_
        refine ur_getN (k := (7 + 2 * (π q))) (v := .int ((vOut v n) 16 (π q) 0)) S hK hP (kb_V (Nat.lt_succ_of_lt (hB.2.2 _ (by omega)))) (xg_row (Nat.lt_succ_of_lt (hB.2.2 _ (by omega)))) rfl (fun w h => hU w (in_V w h)) 1 (by decide) (hN _ t1_37) rfl d_B_deleteCue_57 ?_
        have e9 : delK v π n q x2 = none := by unfold delK; first | rw [if_pos c_k] | rw [if_neg c_k, hX_1]
        exact uIret S hr hlk ((vOut v n), (pOut π n q)) hP hS (by rw [e9]; exact ⟨rfl, by simp [vOut, up3_f, kps]⟩) d_B_deleteCue_60
      · exact absurd rfl c_3
  · have hp_2 : p_2 < n := abvO_lt _ hX_1
    refine lv_istore (lv' := [(4, .int (nI p_2)), (3, .ref (ad (7 + 2 * (π q)))), (0, .ref (ad 4)), (1, .int (nI q)), (2, .int x2)]) S.1 S.2.1 d_B_deleteCue_32 hl (by decide) rfl (fun ls hl => ?_)
    refine lv_iload_n S.1 S.2.1 d_B_deleteCue_34 rfl (lv_at hl 4 rfl) ?_
    refine lv_if_eq (tgt := 51) S.1 S.2.1 d_B_deleteCue_35 (by decide) (fun c_k => ?_) (fun c_k => ?_)
    · refine lv_aload_n S.1 S.2.1 d_B_deleteCue_51 rfl (lv_at hl 2 rfl) ?_
      refine lv_iload_n S.1 S.2.1 d_B_deleteCue_52 rfl (lv_at hl 3 rfl) ?_
      refine uVv (n := 1) (b := 4) (As := [.int (nI q)]) (rest := []) S hK hN hP hS (c_B_takeOut hJ v π n hB q (by omega)) ⟨hU, t3_0, t2_237, t1_5, by decide +kernel, by decide, by decide⟩ t2_239 tp_7 (by decide) xg_book rfl rfl rfl hl.1 rfl (Nat.le_of_ble_eq_true rfl) d_B_deleteCue_53 ⟨Nat.le_of_ble_eq_true rfl, Nat.le_of_ble_eq_true rfl⟩ (fun u H locs hp hP hS => ?_)
      obtain rfl := hp
      refine lv_aload_n S.1 S.2.1 d_B_deleteCue_56 rfl (lv_at hl 1 rfl) ?_
      refine ur_getN (k := (7 + 2 * (π q))) (v := .int ((vOut v n) 16 (π q) 0)) S hK hP (kb_V (Nat.lt_succ_of_lt (hB.2.2 _ (by omega)))) (xg_row (Nat.lt_succ_of_lt (hB.2.2 _ (by omega)))) rfl (fun w h => hU w (in_V w h)) 1 (by decide) (hN _ t1_37) rfl d_B_deleteCue_57 ?_
      have e9 : delK v π n q x2 = none := by unfold delK; first | rw [if_pos c_k] | rw [if_neg c_k, hX_1]
      exact uIret S hr hlk ((vOut v n), (pOut π n q)) hP hS (by rw [e9]; exact ⟨rfl, by simp [vOut, up3_f, kps]⟩) d_B_deleteCue_60
    · refine lv_iload S.1 S.2.1 d_B_deleteCue_38 (lv_at hl 0 rfl) ?_
      refine lv_iconst (v := (-1)) S.1 S.2.1 d_B_deleteCue_40 (by decide) ?_
      refine lv_icmp_eq (tgt := 51) S.1 S.2.1 d_B_deleteCue_41 (by decide) (fun c_4 => ?_) (fun c_4 => ?_)
      · exact absurd c_4 (nI_nm1 (by omega))
      · refine lv_aload_n S.1 S.2.1 d_B_deleteCue_44 rfl (lv_at hl 2 rfl) ?_
        refine lv_iload S.1 S.2.1 d_B_deleteCue_45 (lv_at hl 0 rfl) ?_
        refine lv_aload_n S.1 S.2.1 d_B_deleteCue_47 rfl (lv_at hl 1 rfl) ?_
        refine uVv (n := 2) (b := 4) (As := [.int (nI p_2), .ref (ad (7 + 2 * (π q)))]) (rest := []) S hK hN hP hS (c_B_keepChannels hJ v π M hM n hB p_2 (π q) (by omega) (Nat.lt_succ_of_lt (hB.2.2 _ (by omega)))) ⟨hU, t2_149, t2_146, t1_5, by decide +kernel, by decide, by decide⟩ t2_148 tp_4 (by decide) xg_book rfl rfl rfl hl.1 rfl (Nat.le_of_ble_eq_true rfl) d_B_deleteCue_48 ⟨Nat.le_of_ble_eq_true rfl, Nat.le_of_ble_eq_true rfl⟩ (fun u H locs hp hP hS => ?_)
        obtain rfl := hp
        have hBw_5 := kp_bk (q := p_2) (k := (π q)) hB M
        obtain ⟨w_5, hw_5⟩ : ∃ z, z = kp v π p_2 (π q) M := ⟨_, rfl⟩
        rw [← hw_5] at hP hBw_5
        refine lv_aload_n S.1 S.2.1 d_B_deleteCue_51 rfl (lv_at hl 2 rfl) ?_
        refine lv_iload_n S.1 S.2.1 d_B_deleteCue_52 rfl (lv_at hl 3 rfl) ?_
        refine uVv (n := 1) (b := 4) (As := [.int (nI q)]) (rest := []) S hK hN hP hS (c_B_takeOut hJ w_5 π n hBw_5 q (by omega)) ⟨hU, t3_0, t2_237, t1_5, by decide +kernel, by decide, by decide⟩ t2_239 tp_7 (by decide) xg_book rfl rfl rfl hl.1 rfl (Nat.le_of_ble_eq_true rfl) d_B_deleteCue_53 ⟨Nat.le_of_ble_eq_true rfl, Nat.le_of_ble_eq_true rfl⟩ (fun u H locs hp hP hS => ?_)
        obtain rfl := hp
        refine lv_aload_n S.1 S.2.1 d_B_deleteCue_56 rfl (lv_at hl 1 rfl) ?_
        refine ur_getN (k := (7 + 2 * (π q))) (v := .int ((vOut w_5 n) 16 (π q) 0)) S hK hP (kb_V (Nat.lt_succ_of_lt (hB.2.2 _ (by omega)))) (xg_row (Nat.lt_succ_of_lt (hB.2.2 _ (by omega)))) rfl (fun w h => hU w (in_V w h)) 1 (by decide) (hN _ t1_37) rfl d_B_deleteCue_57 ?_
        have e9 : delK v π n q x2 = (some p_2) := by unfold delK; first | rw [if_pos c_k] | rw [if_neg c_k, hX_1]
        exact uIret S hr hlk ((vOut w_5 n), (pOut π n q)) hP hS (by subst hw_5; rw [e9]; exact ⟨rfl, by simp [vOut, up3_f, kps]⟩) d_B_deleteCue_60

set_option maxRecDepth 100000 in
set_option maxHeartbeats 4000000 in
theorem c_B_recordCue {l : Launch} {D : va_G} {ca : Nat → ClassId} {ad : Nat → Nat} (hJ : uJ 165 ad) (v : Nat → Nat → Nat → Int32) (π : Nat → Nat) (M : Nat) (hM : M = 64) (n : Nat) (hB : xBk v π n) (a b x4 : Int32) : uMi l y_B_recordCue b_B_recordCue 9 (some .int) 4 92 D clsAll (tysAll ca) 165 ad (xG ca ad) (v, π) [.ref (ad 4), .ref (ad 87), .int a, .int b, .int x4] (fun r u => recPost v π n a b x4 M r u) := by
  refine uStart (by decide) (Nat.le_of_ble_eq_true rfl) ?_
  intro p e s m below meth c ls S hr hlk hK hN hP hl
  have hU : ∀ w ∈ uWS, w ∈ (Cond.code y_B_recordCue b_B_recordCue 9 (some .int) :: uWS) := fun w h => List.mem_cons_of_mem _ h
  have hS : va_S (uA 165 ad s.heap.size) s.heap s.heap [] := va_S.rf
  have hl : lv_has ls 9 [(0, .ref (ad 4)), (1, .ref (ad 87)), (2, .int a), (3, .int b), (4, .int x4)] := hl
  have hn40 : n ≤ 40 := hB.2.1
  have hpf := pFor_le v π n a b
  refine lv_aload_n S.1 S.2.1 d_B_recordCue_0 rfl (lv_at hl 0 rfl) ?_
  refine lv_iload_n S.1 S.2.1 d_B_recordCue_1 rfl (lv_at hl 2 rfl) ?_
  refine lv_iload_n S.1 S.2.1 d_B_recordCue_2 rfl (lv_at hl 3 rfl) ?_
  refine uVi (n := 2) (b := 4) (As := [.int a, .int b]) (rest := []) S hK hN hP hS (c_B_placeFor hJ v π n hB a b) ⟨hU, t1_236, t1_233, t1_5, by decide +kernel, by decide, by decide⟩ t1_235 tp_0 (by decide) xg_book rfl rfl rfl hl.1 rfl (Nat.le_of_ble_eq_true rfl) d_B_recordCue_3 ⟨Nat.le_of_ble_eq_true rfl, Nat.le_of_ble_eq_true rfl⟩ (fun r u H locs hp hP hS => ?_)
  obtain ⟨rfl, rfl⟩ := hp
  refine lv_istore (lv' := [(5, .int (nI (pFor v π n a b))), (0, .ref (ad 4)), (1, .ref (ad 87)), (2, .int a), (3, .int b), (4, .int x4)]) S.1 S.2.1 d_B_recordCue_6 hl (by decide) rfl (fun ls hl => ?_)
  refine lv_aload_n S.1 S.2.1 d_B_recordCue_8 rfl (lv_at hl 1 rfl) ?_
  refine lv_iload_n S.1 S.2.1 d_B_recordCue_9 rfl (lv_at hl 3 rfl) ?_
  refine lv_iload_n S.1 S.2.1 d_B_recordCue_10 rfl (lv_at hl 4 rfl) ?_
  refine uVi (n := 2) (b := 4) (As := [.int a, .int b]) (rest := []) S hK hN hP hS (c_B_find hJ v π n hB a b) ⟨hU, t1_232, t2_123, t1_5, by decide +kernel, by decide, by decide⟩ t1_230 t1_231 (by decide) xg_book rfl rfl rfl hl.1 rfl (Nat.le_of_ble_eq_true rfl) d_B_recordCue_11 ⟨Nat.le_of_ble_eq_true rfl, Nat.le_of_ble_eq_true rfl⟩ (fun r u H locs hp hP hS => ?_)
  obtain ⟨rfl, rfl⟩ := hp
  rcases hX_1 : fndO v π n a b with _ | p_2
  · refine lv_iconst (v := (-1)) S.1 S.2.1 d_B_recordCue_14 (by decide) ?_
    refine lv_icmp_ne (tgt := 22) S.1 S.2.1 d_B_recordCue_15 (by decide) (fun c_3 => ?_) (fun c_3 => ?_)
    · exact absurd rfl c_3
    · refine lv_iconst (v := 1) S.1 S.2.1 d_B_recordCue_18 (by decide) ?_
      refine lv_goto (tgt := 23) S.1 S.2.1 d_B_recordCue_19 (by decide) ?_
      refine lv_istore (lv' := [(6, .int 1), (5, .int (nI (pFor v π n a b))), (0, .ref (ad 4)), (1, .ref (ad 87)), (2, .int a), (3, .int b), (4, .int x4)]) S.1 S.2.1 d_B_recordCue_23 hl (by decide) rfl (fun ls hl => ?_)
      refine lv_iload S.1 S.2.1 d_B_recordCue_25 (lv_at hl 0 rfl) ?_
      refine lv_if_eq (tgt := 41) S.1 S.2.1 d_B_recordCue_27 (by decide) (fun c_4 => ?_) (fun c_4 => ?_)
      · exact absurd c_4 (by decide)
      · refine lv_aload_n S.1 S.2.1 d_B_recordCue_30 rfl (lv_at hl 2 rfl) ?_
        refine ur_get (k := 4) (v := .int (v 4 0 0)) S hK hP (by decide) xg_book rfl (fun w h => hU w (in_B w h)) 1 (by decide) (hU _ t1_107) rfl d_B_recordCue_31 ?_
        refine lv_bipush (v := 40) S.1 S.2.1 d_B_recordCue_34 (by decide) ?_
        refine lv_icmp_lt (tgt := 41) S.1 S.2.1 d_B_recordCue_36 (by decide) (fun c_s => ?_) (fun c_s => ?_)
        · have hn : n < 40 := Nat.not_le.mp (fun z => absurd c_s (by rw [hB.1]; exact nI_nlt z (by omega)))
          refine lv_iload S.1 S.2.1 d_B_recordCue_41 (lv_at hl 6 rfl) ?_
          refine lv_if_eq (tgt := 55) S.1 S.2.1 d_B_recordCue_43 (by decide) (fun c_k => ?_) (fun c_k => ?_)
          · refine lv_iconst (v := (-1)) S.1 S.2.1 d_B_recordCue_55 (by decide) ?_
            refine lv_istore (lv' := [(7, .int (-1)), (6, .int 1), (5, .int (nI (pFor v π n a b))), (0, .ref (ad 4)), (1, .ref (ad 87)), (2, .int a), (3, .int b), (4, .int x4)]) S.1 S.2.1 d_B_recordCue_56 hl (by decide) rfl (fun ls hl => ?_)
            refine lv_iload S.1 S.2.1 d_B_recordCue_58 (lv_at hl 1 rfl) ?_
            refine lv_if_eq (tgt := 70) S.1 S.2.1 d_B_recordCue_60 (by decide) (fun c_5 => ?_) (fun c_5 => ?_)
            · exact absurd c_5 (by decide)
            · refine lv_aload_n S.1 S.2.1 d_B_recordCue_63 rfl (lv_at hl 4 rfl) ?_
              refine ur_getN (k := (7 + 2 * 40)) (v := .int (v 16 40 0)) S hK hP (kb_V (by decide)) (xg_row (by decide)) rfl (fun w h => hU w (in_V w h)) 1 (by decide) (hN _ t1_37) rfl d_B_recordCue_64 ?_
              refine lv_goto (tgt := 84) S.1 S.2.1 d_B_recordCue_67 (by decide) ?_
              refine lv_topi (fun x_6 ex_6 => ?_)
              refine lv_istore (lv' := [(8, .int x_6), (7, .int (-1)), (6, .int 1), (5, .int (nI (pFor v π n a b))), (0, .ref (ad 4)), (1, .ref (ad 87)), (2, .int a), (3, .int b), (4, .int x4)]) S.1 S.2.1 d_B_recordCue_84 hl (by decide) rfl (fun ls hl => ?_)
              refine lv_iload S.1 S.2.1 d_B_recordCue_86 (lv_at hl 1 rfl) ?_
              refine lv_iconst (v := (-1)) S.1 S.2.1 d_B_recordCue_88 (by decide) ?_
              refine lv_icmp_eq (tgt := 111) S.1 S.2.1 d_B_recordCue_89 (by decide) (fun c_7 => ?_) (fun c_7 => ?_)
              · refine lv_aload_n S.1 S.2.1 d_B_recordCue_111 rfl (lv_at hl 4 rfl) ?_
                refine uVi (n := 0) (b := 4) (As := []) (rest := []) S hK hN hP hS (c_B_moveCount hJ v π n hB) ⟨hU, t2_37, t2_136, t1_5, by decide +kernel, by decide, by decide⟩ t2_35 t2_36 (by decide) xg_book rfl rfl rfl hl.1 rfl (Nat.le_of_ble_eq_true rfl) d_B_recordCue_112 ⟨Nat.le_of_ble_eq_true rfl, Nat.le_of_ble_eq_true rfl⟩ (fun r u H locs hp hP hS => ?_)
                obtain ⟨rfl, rfl⟩ := hp
                refine lv_iload S.1 S.2.1 d_B_recordCue_115 (lv_at hl 0 rfl) ?_
                refine lv_iadd S.1 S.2.1 d_B_recordCue_117 ?_
                refine lv_sipush (v := 600) S.1 S.2.1 d_B_recordCue_118 (by decide) ?_
                refine lv_icmp_le (tgt := 126) S.1 S.2.1 d_B_recordCue_121 (by decide) (fun c_m => ?_) (fun c_m => ?_)
                · refine lv_iload S.1 S.2.1 d_B_recordCue_126 (lv_at hl 2 rfl) ?_
                  refine lv_if_eq (tgt := 139) S.1 S.2.1 d_B_recordCue_128 (by decide) (fun c_8 => ?_) (fun c_8 => ?_)
                  · exact absurd c_8 (by decide)
                  · refine lv_aload_n S.1 S.2.1 d_B_recordCue_131 rfl (lv_at hl 4 rfl) ?_
                    refine lv_iload S.1 S.2.1 d_B_recordCue_132 (lv_at hl 3 rfl) ?_
                    refine lv_iload_n S.1 S.2.1 d_B_recordCue_134 rfl (lv_at hl 6 rfl) ?_
                    refine lv_iload_n S.1 S.2.1 d_B_recordCue_135 rfl (lv_at hl 7 rfl) ?_
                    refine uVv (n := 3) (b := 4) (As := [.int (nI (pFor v π n a b)), .int a, .int b]) (rest := []) S hK hN hP hS (c_B_insert hJ v π n hB (by omega) (pFor v π n a b) (pFor_le v π n a b) a b) ⟨hU, t2_140, t2_137, t1_5, by decide +kernel, by decide, by decide⟩ t2_139 tp_3 (by decide) xg_book rfl rfl rfl hl.1 rfl (Nat.le_of_ble_eq_true rfl) d_B_recordCue_136 ⟨Nat.le_of_ble_eq_true rfl, Nat.le_of_ble_eq_true rfl⟩ (fun u H locs hp hP hS => ?_)
                    obtain rfl := hp
                    have hB1 := xBk_ins (a := a) (b := b) hB (by omega) (pFor_le v π n a b)
                    refine lv_iload S.1 S.2.1 d_B_recordCue_139 (lv_at hl 1 rfl) ?_
                    refine lv_iconst (v := (-1)) S.1 S.2.1 d_B_recordCue_141 (by decide) ?_
                    refine lv_icmp_eq (tgt := 164) S.1 S.2.1 d_B_recordCue_142 (by decide) (fun c_9 => ?_) (fun c_9 => ?_)
                    · refine lv_aload_n S.1 S.2.1 d_B_recordCue_164 rfl (lv_at hl 4 rfl) ?_
                      refine lv_iload S.1 S.2.1 d_B_recordCue_165 (lv_at hl 3 rfl) ?_
                      refine lv_aload_n S.1 S.2.1 d_B_recordCue_167 rfl (lv_at hl 5 rfl) ?_
                      refine uVv (n := 2) (b := 4) (As := [.int (nI (pFor v π n a b)), .ref (ad 87)]) (rest := []) S hK hN hP hS (c_B_putAll hJ (vIns v π n a b) (pIns π n (pFor v π n a b)) M hM (n + 1) hB1 (pFor v π n a b) 40 (by omega) (by decide)) ⟨hU, t2_170, t2_167, t1_5, by decide +kernel, by decide, by decide⟩ t2_169 tp_5 (by decide) xg_book rfl rfl rfl hl.1 rfl (Nat.le_of_ble_eq_true rfl) d_B_recordCue_168 ⟨Nat.le_of_ble_eq_true rfl, Nat.le_of_ble_eq_true rfl⟩ (fun u H locs hp hP hS => ?_)
                      obtain rfl := hp
                      have hBw_10 := pa_bk (q := (pFor v π n a b)) (k := 40) hB1 M
                      obtain ⟨w_10, hw_10⟩ : ∃ z, z = pa (vIns v π n a b) (pIns π n (pFor v π n a b)) (pFor v π n a b) 40 M := ⟨_, rfl⟩
                      rw [← hw_10] at hP hBw_10
                      refine lv_aload_n S.1 S.2.1 d_B_recordCue_171 rfl (lv_at hl 4 rfl) ?_
                      refine ur_get (k := 4) (v := .ref (ad 5)) S hK hP (by decide) xg_book rfl (fun w h => hU w (in_B w h)) 0 (by decide) (hU _ t1_106) rfl d_B_recordCue_172 ?_
                      refine lv_iload S.1 S.2.1 d_B_recordCue_175 (lv_at hl 3 rfl) ?_
                      refine ur_aald (k := 5) (q := ad (89 + (pIns π n (pFor v π n a b)) (pFor v π n a b))) (j := (pFor v π n a b)) S hK hP (by decide) 2 xg_cues rfl rfl (by omega) (by decide) rfl d_B_recordCue_177 ?_
                      refine ur_getN (k := (89 + ((pIns π n (pFor v π n a b)) (pFor v π n a b)))) (v := .ref (ad (7 + 2 * ((pIns π n (pFor v π n a b)) (pFor v π n a b))))) S hK hP (kb_C (hBw_10.2.2 _ (by omega))) (xg_cue (hBw_10.2.2 _ (by omega))) rfl (fun w h => hU w (in_C w h)) 0 (by decide) (hN _ t1_74) rfl d_B_recordCue_178 ?_
                      refine ur_getN (k := (7 + 2 * ((pIns π n (pFor v π n a b)) (pFor v π n a b)))) (v := .int (w_10 16 ((pIns π n (pFor v π n a b)) (pFor v π n a b)) 0)) S hK hP (kb_V (Nat.lt_succ_of_lt (hBw_10.2.2 _ (by omega)))) (xg_row (Nat.lt_succ_of_lt (hBw_10.2.2 _ (by omega)))) rfl (fun w h => hU w (in_V w h)) 1 (by decide) (hN _ t1_37) rfl d_B_recordCue_181 ?_
                      have e9 : kpr v π n a b x4 = none := by unfold kpr; first | rw [if_pos c_k] | rw [if_neg c_k, hX_1]
                      have h9 := c_m
                      try rw [ex_6] at h9
                      exact uIret S hr hlk (w_10, (pIns π n (pFor v π n a b))) hP hS (by subst hw_10; unfold recPost; rw [hX_1]; show ite _ _ _; rw [e9]; rw [if_neg ((fun z => z.elim (fun z => by omega) (fun z => z (by simpa [kl] using h9))))]; exact ⟨rfl, rfl⟩) d_B_recordCue_184
                    · exact absurd rfl c_9
                · refine lv_iconst (v := (-1)) S.1 S.2.1 d_B_recordCue_124 (by decide) ?_
                  have e9 : kpr v π n a b x4 = none := by unfold kpr; first | rw [if_pos c_k] | rw [if_neg c_k, hX_1]
                  have h9 := c_m
                  try rw [ex_6] at h9
                  exact uIret S hr hlk (v, π) hP hS (by unfold recPost; rw [hX_1]; show ite _ _ _; rw [e9]; rw [if_pos (Or.inr (by simpa [kl] using h9))]; exact ⟨rfl, rfl⟩) d_B_recordCue_125
              · exact absurd rfl c_7
          · refine lv_aload_n S.1 S.2.1 d_B_recordCue_46 rfl (lv_at hl 2 rfl) ?_
            refine lv_iload_n S.1 S.2.1 d_B_recordCue_47 rfl (lv_at hl 4 rfl) ?_
            refine lv_iload_n S.1 S.2.1 d_B_recordCue_48 rfl (lv_at hl 5 rfl) ?_
            refine uVi (n := 2) (b := 4) (As := [.int a, .int b]) (rest := []) S hK hN hP hS (c_B_placeAbove hJ v π n hB a b) ⟨hU, t2_127, t2_124, t1_5, by decide +kernel, by decide, by decide⟩ t2_125 t2_126 (by decide) xg_book rfl rfl rfl hl.1 rfl (Nat.le_of_ble_eq_true rfl) d_B_recordCue_49 ⟨Nat.le_of_ble_eq_true rfl, Nat.le_of_ble_eq_true rfl⟩ (fun r u H locs hp hP hS => ?_)
            obtain ⟨rfl, rfl⟩ := hp
            rcases hX_11 : abvO v π n a b with _ | p_12
            · refine lv_goto (tgt := 56) S.1 S.2.1 d_B_recordCue_52 (by decide) ?_
              refine lv_istore (lv' := [(7, .int (-1)), (6, .int 1), (5, .int (nI (pFor v π n a b))), (0, .ref (ad 4)), (1, .ref (ad 87)), (2, .int a), (3, .int b), (4, .int x4)]) S.1 S.2.1 d_B_recordCue_56 hl (by decide) rfl (fun ls hl => ?_)
              refine lv_iload S.1 S.2.1 d_B_recordCue_58 (lv_at hl 1 rfl) ?_
              refine lv_if_eq (tgt := 70) S.1 S.2.1 d_B_recordCue_60 (by decide) (fun c_13 => ?_) (fun c_13 => ?_)
              · exact absurd c_13 (by decide)
              · refine lv_aload_n S.1 S.2.1 d_B_recordCue_63 rfl (lv_at hl 4 rfl) ?_
                refine ur_getN (k := (7 + 2 * 40)) (v := .int (v 16 40 0)) S hK hP (kb_V (by decide)) (xg_row (by decide)) rfl (fun w h => hU w (in_V w h)) 1 (by decide) (hN _ t1_37) rfl d_B_recordCue_64 ?_
                refine lv_goto (tgt := 84) S.1 S.2.1 d_B_recordCue_67 (by decide) ?_
                refine lv_topi (fun x_14 ex_14 => ?_)
                refine lv_istore (lv' := [(8, .int x_14), (7, .int (-1)), (6, .int 1), (5, .int (nI (pFor v π n a b))), (0, .ref (ad 4)), (1, .ref (ad 87)), (2, .int a), (3, .int b), (4, .int x4)]) S.1 S.2.1 d_B_recordCue_84 hl (by decide) rfl (fun ls hl => ?_)
                refine lv_iload S.1 S.2.1 d_B_recordCue_86 (lv_at hl 1 rfl) ?_
                refine lv_iconst (v := (-1)) S.1 S.2.1 d_B_recordCue_88 (by decide) ?_
                refine lv_icmp_eq (tgt := 111) S.1 S.2.1 d_B_recordCue_89 (by decide) (fun c_15 => ?_) (fun c_15 => ?_)
                · refine lv_aload_n S.1 S.2.1 d_B_recordCue_111 rfl (lv_at hl 4 rfl) ?_
                  refine uVi (n := 0) (b := 4) (As := []) (rest := []) S hK hN hP hS (c_B_moveCount hJ v π n hB) ⟨hU, t2_37, t2_136, t1_5, by decide +kernel, by decide, by decide⟩ t2_35 t2_36 (by decide) xg_book rfl rfl rfl hl.1 rfl (Nat.le_of_ble_eq_true rfl) d_B_recordCue_112 ⟨Nat.le_of_ble_eq_true rfl, Nat.le_of_ble_eq_true rfl⟩ (fun r u H locs hp hP hS => ?_)
                  obtain ⟨rfl, rfl⟩ := hp
                  refine lv_iload S.1 S.2.1 d_B_recordCue_115 (lv_at hl 0 rfl) ?_
                  refine lv_iadd S.1 S.2.1 d_B_recordCue_117 ?_
                  refine lv_sipush (v := 600) S.1 S.2.1 d_B_recordCue_118 (by decide) ?_
                  refine lv_icmp_le (tgt := 126) S.1 S.2.1 d_B_recordCue_121 (by decide) (fun c_m => ?_) (fun c_m => ?_)
                  · refine lv_iload S.1 S.2.1 d_B_recordCue_126 (lv_at hl 2 rfl) ?_
                    refine lv_if_eq (tgt := 139) S.1 S.2.1 d_B_recordCue_128 (by decide) (fun c_16 => ?_) (fun c_16 => ?_)
                    · exact absurd c_16 (by decide)
                    · refine lv_aload_n S.1 S.2.1 d_B_recordCue_131 rfl (lv_at hl 4 rfl) ?_
                      refine lv_iload S.1 S.2.1 d_B_recordCue_132 (lv_at hl 3 rfl) ?_
                      refine lv_iload_n S.1 S.2.1 d_B_recordCue_134 rfl (lv_at hl 6 rfl) ?_
                      refine lv_iload_n S.1 S.2.1 d_B_recordCue_135 rfl (lv_at hl 7 rfl) ?_
                      refine uVv (n := 3) (b := 4) (As := [.int (nI (pFor v π n a b)), .int a, .int b]) (rest := []) S hK hN hP hS (c_B_insert hJ v π n hB (by omega) (pFor v π n a b) (pFor_le v π n a b) a b) ⟨hU, t2_140, t2_137, t1_5, by decide +kernel, by decide, by decide⟩ t2_139 tp_3 (by decide) xg_book rfl rfl rfl hl.1 rfl (Nat.le_of_ble_eq_true rfl) d_B_recordCue_136 ⟨Nat.le_of_ble_eq_true rfl, Nat.le_of_ble_eq_true rfl⟩ (fun u H locs hp hP hS => ?_)
                      obtain rfl := hp
                      have hB1 := xBk_ins (a := a) (b := b) hB (by omega) (pFor_le v π n a b)
                      refine lv_iload S.1 S.2.1 d_B_recordCue_139 (lv_at hl 1 rfl) ?_
                      refine lv_iconst (v := (-1)) S.1 S.2.1 d_B_recordCue_141 (by decide) ?_
                      refine lv_icmp_eq (tgt := 164) S.1 S.2.1 d_B_recordCue_142 (by decide) (fun c_17 => ?_) (fun c_17 => ?_)
                      · refine lv_aload_n S.1 S.2.1 d_B_recordCue_164 rfl (lv_at hl 4 rfl) ?_
                        refine lv_iload S.1 S.2.1 d_B_recordCue_165 (lv_at hl 3 rfl) ?_
                        refine lv_aload_n S.1 S.2.1 d_B_recordCue_167 rfl (lv_at hl 5 rfl) ?_
                        refine uVv (n := 2) (b := 4) (As := [.int (nI (pFor v π n a b)), .ref (ad 87)]) (rest := []) S hK hN hP hS (c_B_putAll hJ (vIns v π n a b) (pIns π n (pFor v π n a b)) M hM (n + 1) hB1 (pFor v π n a b) 40 (by omega) (by decide)) ⟨hU, t2_170, t2_167, t1_5, by decide +kernel, by decide, by decide⟩ t2_169 tp_5 (by decide) xg_book rfl rfl rfl hl.1 rfl (Nat.le_of_ble_eq_true rfl) d_B_recordCue_168 ⟨Nat.le_of_ble_eq_true rfl, Nat.le_of_ble_eq_true rfl⟩ (fun u H locs hp hP hS => ?_)
                        obtain rfl := hp
                        have hBw_18 := pa_bk (q := (pFor v π n a b)) (k := 40) hB1 M
                        obtain ⟨w_18, hw_18⟩ : ∃ z, z = pa (vIns v π n a b) (pIns π n (pFor v π n a b)) (pFor v π n a b) 40 M := ⟨_, rfl⟩
                        rw [← hw_18] at hP hBw_18
                        refine lv_aload_n S.1 S.2.1 d_B_recordCue_171 rfl (lv_at hl 4 rfl) ?_
                        refine ur_get (k := 4) (v := .ref (ad 5)) S hK hP (by decide) xg_book rfl (fun w h => hU w (in_B w h)) 0 (by decide) (hU _ t1_106) rfl d_B_recordCue_172 ?_
                        refine lv_iload S.1 S.2.1 d_B_recordCue_175 (lv_at hl 3 rfl) ?_
                        refine ur_aald (k := 5) (q := ad (89 + (pIns π n (pFor v π n a b)) (pFor v π n a b))) (j := (pFor v π n a b)) S hK hP (by decide) 2 xg_cues rfl rfl (by omega) (by decide) rfl d_B_recordCue_177 ?_
                        refine ur_getN (k := (89 + ((pIns π n (pFor v π n a b)) (pFor v π n a b)))) (v := .ref (ad (7 + 2 * ((pIns π n (pFor v π n a b)) (pFor v π n a b))))) S hK hP (kb_C (hBw_18.2.2 _ (by omega))) (xg_cue (hBw_18.2.2 _ (by omega))) rfl (fun w h => hU w (in_C w h)) 0 (by decide) (hN _ t1_74) rfl d_B_recordCue_178 ?_
                        refine ur_getN (k := (7 + 2 * ((pIns π n (pFor v π n a b)) (pFor v π n a b)))) (v := .int (w_18 16 ((pIns π n (pFor v π n a b)) (pFor v π n a b)) 0)) S hK hP (kb_V (Nat.lt_succ_of_lt (hBw_18.2.2 _ (by omega)))) (xg_row (Nat.lt_succ_of_lt (hBw_18.2.2 _ (by omega)))) rfl (fun w h => hU w (in_V w h)) 1 (by decide) (hN _ t1_37) rfl d_B_recordCue_181 ?_
                        have e9 : kpr v π n a b x4 = none := by unfold kpr; first | rw [if_pos c_k] | rw [if_neg c_k, hX_11]
                        have h9 := c_m
                        try rw [ex_14] at h9
                        exact uIret S hr hlk (w_18, (pIns π n (pFor v π n a b))) hP hS (by subst hw_18; unfold recPost; rw [hX_1]; show ite _ _ _; rw [e9]; rw [if_neg ((fun z => z.elim (fun z => by omega) (fun z => z (by simpa [kl] using h9))))]; exact ⟨rfl, rfl⟩) d_B_recordCue_184
                      · exact absurd rfl c_17
                  · refine lv_iconst (v := (-1)) S.1 S.2.1 d_B_recordCue_124 (by decide) ?_
                    have e9 : kpr v π n a b x4 = none := by unfold kpr; first | rw [if_pos c_k] | rw [if_neg c_k, hX_11]
                    have h9 := c_m
                    try rw [ex_14] at h9
                    exact uIret S hr hlk (v, π) hP hS (by unfold recPost; rw [hX_1]; show ite _ _ _; rw [e9]; rw [if_pos (Or.inr (by simpa [kl] using h9))]; exact ⟨rfl, rfl⟩) d_B_recordCue_125
                · exact absurd rfl c_15
            · have hp_12 : p_12 < n := abvO_lt _ hX_11
              refine lv_goto (tgt := 56) S.1 S.2.1 d_B_recordCue_52 (by decide) ?_
              refine lv_istore (lv' := [(7, .int (nI p_12)), (6, .int 1), (5, .int (nI (pFor v π n a b))), (0, .ref (ad 4)), (1, .ref (ad 87)), (2, .int a), (3, .int b), (4, .int x4)]) S.1 S.2.1 d_B_recordCue_56 hl (by decide) rfl (fun ls hl => ?_)
              refine lv_iload S.1 S.2.1 d_B_recordCue_58 (lv_at hl 1 rfl) ?_
              refine lv_if_eq (tgt := 70) S.1 S.2.1 d_B_recordCue_60 (by decide) (fun c_19 => ?_) (fun c_19 => ?_)
              · exact absurd c_19 (by decide)
              · refine lv_aload_n S.1 S.2.1 d_B_recordCue_63 rfl (lv_at hl 4 rfl) ?_
                refine ur_getN (k := (7 + 2 * 40)) (v := .int (v 16 40 0)) S hK hP (kb_V (by decide)) (xg_row (by decide)) rfl (fun w h => hU w (in_V w h)) 1 (by decide) (hN _ t1_37) rfl d_B_recordCue_64 ?_
                refine lv_goto (tgt := 84) S.1 S.2.1 d_B_recordCue_67 (by decide) ?_
                refine lv_topi (fun x_20 ex_20 => ?_)
                refine lv_istore (lv' := [(8, .int x_20), (7, .int (nI p_12)), (6, .int 1), (5, .int (nI (pFor v π n a b))), (0, .ref (ad 4)), (1, .ref (ad 87)), (2, .int a), (3, .int b), (4, .int x4)]) S.1 S.2.1 d_B_recordCue_84 hl (by decide) rfl (fun ls hl => ?_)
                refine lv_iload S.1 S.2.1 d_B_recordCue_86 (lv_at hl 1 rfl) ?_
                refine lv_iconst (v := (-1)) S.1 S.2.1 d_B_recordCue_88 (by decide) ?_
                refine lv_icmp_eq (tgt := 111) S.1 S.2.1 d_B_recordCue_89 (by decide) (fun c_21 => ?_) (fun c_21 => ?_)
                · exact absurd c_21 (nI_nm1 (by omega))
                · refine lv_iload S.1 S.2.1 d_B_recordCue_92 (lv_at hl 0 rfl) ?_
                  refine lv_aload_n S.1 S.2.1 d_B_recordCue_94 rfl (lv_at hl 4 rfl) ?_
                  refine ur_get (k := 4) (v := .ref (ad 5)) S hK hP (by decide) xg_book rfl (fun w h => hU w (in_B w h)) 0 (by decide) (hU _ t1_106) rfl d_B_recordCue_95 ?_
                  refine lv_iload S.1 S.2.1 d_B_recordCue_98 (lv_at hl 1 rfl) ?_
                  refine ur_aald (k := 5) (q := ad (89 + π p_12)) (j := p_12) S hK hP (by decide) 2 xg_cues rfl rfl (by omega) (by decide) rfl d_B_recordCue_100 ?_
                  refine ur_getN (k := (89 + (π p_12))) (v := .ref (ad (7 + 2 * (π p_12)))) S hK hP (kb_C (hB.2.2 _ (by omega))) (xg_cue (hB.2.2 _ (by omega))) rfl (fun w h => hU w (in_C w h)) 0 (by decide) (hN _ t1_74) rfl d_B_recordCue_101 ?_
                  refine lv_aload_n S.1 S.2.1 d_B_recordCue_104 rfl (lv_at hl 5 rfl) ?_
                  refine uVi (n := 1) (b := (7 + 2 * (π p_12))) (As := [.ref (ad 87)]) (rest := [.int x_20]) S hK hN hP hS (c_V_lackedOf hJ v π M hM (π p_12) 40 (Nat.lt_succ_of_lt (hB.2.2 _ (by omega))) (by decide)) ⟨hU, t2_131, t2_128, t1_2, by decide +kernel, by decide, by decide⟩ t2_129 t2_130 (kb_V (Nat.lt_succ_of_lt (hB.2.2 _ (by omega)))) (xg_row (Nat.lt_succ_of_lt (hB.2.2 _ (by omega)))) rfl rfl rfl hl.1 rfl (Nat.le_of_ble_eq_true rfl) d_B_recordCue_105 ⟨Nat.le_of_ble_eq_true rfl, Nat.le_of_ble_eq_true rfl⟩ (fun r u H locs hp hP hS => ?_)
                  obtain ⟨rfl, rfl⟩ := hp
                  refine lv_iadd S.1 S.2.1 d_B_recordCue_108 ?_
                  refine lv_topi (fun x_22 ex_22 => ?_)
                  refine lv_istore (lv' := [(8, .int x_22), (7, .int (nI p_12)), (6, .int 1), (5, .int (nI (pFor v π n a b))), (0, .ref (ad 4)), (1, .ref (ad 87)), (2, .int a), (3, .int b), (4, .int x4)]) S.1 S.2.1 d_B_recordCue_109 hl (by decide) rfl (fun ls hl => ?_)
                  refine lv_aload_n S.1 S.2.1 d_B_recordCue_111 rfl (lv_at hl 4 rfl) ?_
                  refine uVi (n := 0) (b := 4) (As := []) (rest := []) S hK hN hP hS (c_B_moveCount hJ v π n hB) ⟨hU, t2_37, t2_136, t1_5, by decide +kernel, by decide, by decide⟩ t2_35 t2_36 (by decide) xg_book rfl rfl rfl hl.1 rfl (Nat.le_of_ble_eq_true rfl) d_B_recordCue_112 ⟨Nat.le_of_ble_eq_true rfl, Nat.le_of_ble_eq_true rfl⟩ (fun r u H locs hp hP hS => ?_)
                  obtain ⟨rfl, rfl⟩ := hp
                  refine lv_iload S.1 S.2.1 d_B_recordCue_115 (lv_at hl 0 rfl) ?_
                  refine lv_iadd S.1 S.2.1 d_B_recordCue_117 ?_
                  refine lv_sipush (v := 600) S.1 S.2.1 d_B_recordCue_118 (by decide) ?_
                  refine lv_icmp_le (tgt := 126) S.1 S.2.1 d_B_recordCue_121 (by decide) (fun c_m => ?_) (fun c_m => ?_)
                  · refine lv_iload S.1 S.2.1 d_B_recordCue_126 (lv_at hl 2 rfl) ?_
                    refine lv_if_eq (tgt := 139) S.1 S.2.1 d_B_recordCue_128 (by decide) (fun c_23 => ?_) (fun c_23 => ?_)
                    · exact absurd c_23 (by decide)
                    · refine lv_aload_n S.1 S.2.1 d_B_recordCue_131 rfl (lv_at hl 4 rfl) ?_
                      refine lv_iload S.1 S.2.1 d_B_recordCue_132 (lv_at hl 3 rfl) ?_
                      refine lv_iload_n S.1 S.2.1 d_B_recordCue_134 rfl (lv_at hl 6 rfl) ?_
                      refine lv_iload_n S.1 S.2.1 d_B_recordCue_135 rfl (lv_at hl 7 rfl) ?_
                      refine uVv (n := 3) (b := 4) (As := [.int (nI (pFor v π n a b)), .int a, .int b]) (rest := []) S hK hN hP hS (c_B_insert hJ v π n hB (by omega) (pFor v π n a b) (pFor_le v π n a b) a b) ⟨hU, t2_140, t2_137, t1_5, by decide +kernel, by decide, by decide⟩ t2_139 tp_3 (by decide) xg_book rfl rfl rfl hl.1 rfl (Nat.le_of_ble_eq_true rfl) d_B_recordCue_136 ⟨Nat.le_of_ble_eq_true rfl, Nat.le_of_ble_eq_true rfl⟩ (fun u H locs hp hP hS => ?_)
                      obtain rfl := hp
                      have hB1 := xBk_ins (a := a) (b := b) hB (by omega) (pFor_le v π n a b)
                      refine lv_iload S.1 S.2.1 d_B_recordCue_139 (lv_at hl 1 rfl) ?_
                      refine lv_iconst (v := (-1)) S.1 S.2.1 d_B_recordCue_141 (by decide) ?_
                      refine lv_icmp_eq (tgt := 164) S.1 S.2.1 d_B_recordCue_142 (by decide) (fun c_24 => ?_) (fun c_24 => ?_)
                      · exact absurd c_24 (nI_nm1 (by omega))
                      · refine lv_aload_n S.1 S.2.1 d_B_recordCue_145 rfl (lv_at hl 4 rfl) ?_
                        refine lv_iload S.1 S.2.1 d_B_recordCue_146 (lv_at hl 2 rfl) ?_
                        refine lv_if_eq (tgt := 158) S.1 S.2.1 d_B_recordCue_148 (by decide) (fun c_25 => ?_) (fun c_25 => ?_)
                        · exact absurd c_25 (by decide)
                        · refine lv_iload S.1 S.2.1 d_B_recordCue_151 (lv_at hl 1 rfl) ?_
                          refine lv_iconst (v := 1) S.1 S.2.1 d_B_recordCue_153 (by decide) ?_
                          refine lv_iadd S.1 S.2.1 d_B_recordCue_154 ?_
                          rw [nI_1]
                          refine lv_goto (tgt := 160) S.1 S.2.1 d_B_recordCue_155 (by decide) ?_
                          refine lv_aload_n S.1 S.2.1 d_B_recordCue_160 rfl (lv_at hl 5 rfl) ?_
                          refine uVv (n := 2) (b := 4) (As := [.int (nI (p_12 + 1)), .ref (ad 87)]) (rest := []) S hK hN hP hS (c_B_keepChannels hJ (vIns v π n a b) (pIns π n (pFor v π n a b)) M hM (n + 1) hB1 (p_12 + 1) 40 (by omega) (by decide)) ⟨hU, t2_149, t2_146, t1_5, by decide +kernel, by decide, by decide⟩ t2_148 tp_4 (by decide) xg_book rfl rfl rfl hl.1 rfl (Nat.le_of_ble_eq_true rfl) d_B_recordCue_161 ⟨Nat.le_of_ble_eq_true rfl, Nat.le_of_ble_eq_true rfl⟩ (fun u H locs hp hP hS => ?_)
                          obtain rfl := hp
                          have hBw_26 := kp_bk (q := (p_12 + 1)) (k := 40) hB1 M
                          obtain ⟨w_26, hw_26⟩ : ∃ z, z = kp (vIns v π n a b) (pIns π n (pFor v π n a b)) (p_12 + 1) 40 M := ⟨_, rfl⟩
                          rw [← hw_26] at hP hBw_26
                          refine lv_aload_n S.1 S.2.1 d_B_recordCue_164 rfl (lv_at hl 4 rfl) ?_
                          refine lv_iload S.1 S.2.1 d_B_recordCue_165 (lv_at hl 3 rfl) ?_
                          refine lv_aload_n S.1 S.2.1 d_B_recordCue_167 rfl (lv_at hl 5 rfl) ?_
                          refine uVv (n := 2) (b := 4) (As := [.int (nI (pFor v π n a b)), .ref (ad 87)]) (rest := []) S hK hN hP hS (c_B_putAll hJ w_26 (pIns π n (pFor v π n a b)) M hM (n + 1) hBw_26 (pFor v π n a b) 40 (by omega) (by decide)) ⟨hU, t2_170, t2_167, t1_5, by decide +kernel, by decide, by decide⟩ t2_169 tp_5 (by decide) xg_book rfl rfl rfl hl.1 rfl (Nat.le_of_ble_eq_true rfl) d_B_recordCue_168 ⟨Nat.le_of_ble_eq_true rfl, Nat.le_of_ble_eq_true rfl⟩ (fun u H locs hp hP hS => ?_)
                          obtain rfl := hp
                          have hBw_27 := pa_bk (q := (pFor v π n a b)) (k := 40) hBw_26 M
                          obtain ⟨w_27, hw_27⟩ : ∃ z, z = pa w_26 (pIns π n (pFor v π n a b)) (pFor v π n a b) 40 M := ⟨_, rfl⟩
                          rw [← hw_27] at hP hBw_27
                          refine lv_aload_n S.1 S.2.1 d_B_recordCue_171 rfl (lv_at hl 4 rfl) ?_
                          refine ur_get (k := 4) (v := .ref (ad 5)) S hK hP (by decide) xg_book rfl (fun w h => hU w (in_B w h)) 0 (by decide) (hU _ t1_106) rfl d_B_recordCue_172 ?_
                          refine lv_iload S.1 S.2.1 d_B_recordCue_175 (lv_at hl 3 rfl) ?_
                          refine ur_aald (k := 5) (q := ad (89 + (pIns π n (pFor v π n a b)) (pFor v π n a b))) (j := (pFor v π n a b)) S hK hP (by decide) 2 xg_cues rfl rfl (by omega) (by decide) rfl d_B_recordCue_177 ?_
                          refine ur_getN (k := (89 + ((pIns π n (pFor v π n a b)) (pFor v π n a b)))) (v := .ref (ad (7 + 2 * ((pIns π n (pFor v π n a b)) (pFor v π n a b))))) S hK hP (kb_C (hBw_27.2.2 _ (by omega))) (xg_cue (hBw_27.2.2 _ (by omega))) rfl (fun w h => hU w (in_C w h)) 0 (by decide) (hN _ t1_74) rfl d_B_recordCue_178 ?_
                          refine ur_getN (k := (7 + 2 * ((pIns π n (pFor v π n a b)) (pFor v π n a b)))) (v := .int (w_27 16 ((pIns π n (pFor v π n a b)) (pFor v π n a b)) 0)) S hK hP (kb_V (Nat.lt_succ_of_lt (hBw_27.2.2 _ (by omega)))) (xg_row (Nat.lt_succ_of_lt (hBw_27.2.2 _ (by omega)))) rfl (fun w h => hU w (in_V w h)) 1 (by decide) (hN _ t1_37) rfl d_B_recordCue_181 ?_
                          have e9 : kpr v π n a b x4 = (some p_12) := by unfold kpr; first | rw [if_pos c_k] | rw [if_neg c_k, hX_11]
                          have h9 := c_m
                          try rw [ex_22] at h9; try rw [ex_20] at h9
                          exact uIret S hr hlk (w_27, (pIns π n (pFor v π n a b))) hP hS (by subst hw_27; subst hw_26; unfold recPost; rw [hX_1]; show ite _ _ _; rw [e9]; rw [if_neg ((fun z => z.elim (fun z => by omega) (fun z => z (by simpa [kl] using h9))))]; exact ⟨rfl, rfl⟩) d_B_recordCue_184
                  · refine lv_iconst (v := (-1)) S.1 S.2.1 d_B_recordCue_124 (by decide) ?_
                    have e9 : kpr v π n a b x4 = (some p_12) := by unfold kpr; first | rw [if_pos c_k] | rw [if_neg c_k, hX_11]
                    have h9 := c_m
                    try rw [ex_22] at h9; try rw [ex_20] at h9
                    exact uIret S hr hlk (v, π) hP hS (by unfold recPost; rw [hX_1]; show ite _ _ _; rw [e9]; rw [if_pos (Or.inr (by simpa [kl] using h9))]; exact ⟨rfl, rfl⟩) d_B_recordCue_125
        · have hn : ¬ n < 40 := fun z => absurd (by rw [hB.1]; exact nI_lt z (by decide)) c_s
          refine lv_iconst (v := (-1)) S.1 S.2.1 d_B_recordCue_39 (by decide) ?_
          exact uIret S hr hlk (v, π) hP hS (by unfold recPost; rw [hX_1]; show ite _ _ _; rw [if_pos (Or.inl (by have := hn40; omega))]; exact ⟨rfl, rfl⟩) d_B_recordCue_40
  · have hp_2 : p_2 < n := fndO_lt _ hX_1
    have hpn : pFor v π n a b < n := by have := fndO_pf hX_1; omega
    refine lv_iconst (v := (-1)) S.1 S.2.1 d_B_recordCue_14 (by decide) ?_
    refine lv_icmp_ne (tgt := 22) S.1 S.2.1 d_B_recordCue_15 (by decide) (fun c_28 => ?_) (fun c_28 => ?_)
    · refine lv_iconst (v := 0) S.1 S.2.1 d_B_recordCue_22 (by decide) ?_
      refine lv_istore (lv' := [(6, .int 0), (5, .int (nI (pFor v π n a b))), (0, .ref (ad 4)), (1, .ref (ad 87)), (2, .int a), (3, .int b), (4, .int x4)]) S.1 S.2.1 d_B_recordCue_23 hl (by decide) rfl (fun ls hl => ?_)
      refine lv_iload S.1 S.2.1 d_B_recordCue_25 (lv_at hl 0 rfl) ?_
      refine lv_if_eq (tgt := 41) S.1 S.2.1 d_B_recordCue_27 (by decide) (fun c_29 => ?_) (fun c_29 => ?_)
      · refine lv_iload S.1 S.2.1 d_B_recordCue_41 (lv_at hl 6 rfl) ?_
        refine lv_if_eq (tgt := 55) S.1 S.2.1 d_B_recordCue_43 (by decide) (fun c_k => ?_) (fun c_k => ?_)
        · refine lv_iconst (v := (-1)) S.1 S.2.1 d_B_recordCue_55 (by decide) ?_
          refine lv_istore (lv' := [(7, .int (-1)), (6, .int 0), (5, .int (nI (pFor v π n a b))), (0, .ref (ad 4)), (1, .ref (ad 87)), (2, .int a), (3, .int b), (4, .int x4)]) S.1 S.2.1 d_B_recordCue_56 hl (by decide) rfl (fun ls hl => ?_)
          refine lv_iload S.1 S.2.1 d_B_recordCue_58 (lv_at hl 1 rfl) ?_
          refine lv_if_eq (tgt := 70) S.1 S.2.1 d_B_recordCue_60 (by decide) (fun c_30 => ?_) (fun c_30 => ?_)
          · refine lv_aload_n S.1 S.2.1 d_B_recordCue_70 rfl (lv_at hl 3 rfl) ?_
            refine ur_get (k := 4) (v := .ref (ad 5)) S hK hP (by decide) xg_book rfl (fun w h => hU w (in_B w h)) 0 (by decide) (hU _ t1_106) rfl d_B_recordCue_71 ?_
            refine lv_iload S.1 S.2.1 d_B_recordCue_74 (lv_at hl 2 rfl) ?_
            refine ur_aald (k := 5) (q := ad (89 + π (pFor v π n a b))) (j := (pFor v π n a b)) S hK hP (by decide) 2 xg_cues rfl rfl (by omega) (by decide) rfl d_B_recordCue_76 ?_
            refine ur_getN (k := (89 + (π (pFor v π n a b)))) (v := .ref (ad (7 + 2 * (π (pFor v π n a b))))) S hK hP (kb_C (hB.2.2 _ (by omega))) (xg_cue (hB.2.2 _ (by omega))) rfl (fun w h => hU w (in_C w h)) 0 (by decide) (hN _ t1_74) rfl d_B_recordCue_77 ?_
            refine lv_aload_n S.1 S.2.1 d_B_recordCue_80 rfl (lv_at hl 4 rfl) ?_
            refine uVi (n := 1) (b := (7 + 2 * (π (pFor v π n a b)))) (As := [.ref (ad 87)]) (rest := []) S hK hN hP hS (c_V_lackedOf hJ v π M hM (π (pFor v π n a b)) 40 (Nat.lt_succ_of_lt (hB.2.2 _ (by omega))) (by decide)) ⟨hU, t2_131, t2_128, t1_2, by decide +kernel, by decide, by decide⟩ t2_129 t2_130 (kb_V (Nat.lt_succ_of_lt (hB.2.2 _ (by omega)))) (xg_row (Nat.lt_succ_of_lt (hB.2.2 _ (by omega)))) rfl rfl rfl hl.1 rfl (Nat.le_of_ble_eq_true rfl) d_B_recordCue_81 ⟨Nat.le_of_ble_eq_true rfl, Nat.le_of_ble_eq_true rfl⟩ (fun r u H locs hp hP hS => ?_)
            obtain ⟨rfl, rfl⟩ := hp
            refine lv_topi (fun x_31 ex_31 => ?_)
            refine lv_istore (lv' := [(8, .int x_31), (7, .int (-1)), (6, .int 0), (5, .int (nI (pFor v π n a b))), (0, .ref (ad 4)), (1, .ref (ad 87)), (2, .int a), (3, .int b), (4, .int x4)]) S.1 S.2.1 d_B_recordCue_84 hl (by decide) rfl (fun ls hl => ?_)
            refine lv_iload S.1 S.2.1 d_B_recordCue_86 (lv_at hl 1 rfl) ?_
            refine lv_iconst (v := (-1)) S.1 S.2.1 d_B_recordCue_88 (by decide) ?_
            refine lv_icmp_eq (tgt := 111) S.1 S.2.1 d_B_recordCue_89 (by decide) (fun c_32 => ?_) (fun c_32 => ?_)
            · refine lv_aload_n S.1 S.2.1 d_B_recordCue_111 rfl (lv_at hl 4 rfl) ?_
              refine uVi (n := 0) (b := 4) (As := []) (rest := []) S hK hN hP hS (c_B_moveCount hJ v π n hB) ⟨hU, t2_37, t2_136, t1_5, by decide +kernel, by decide, by decide⟩ t2_35 t2_36 (by decide) xg_book rfl rfl rfl hl.1 rfl (Nat.le_of_ble_eq_true rfl) d_B_recordCue_112 ⟨Nat.le_of_ble_eq_true rfl, Nat.le_of_ble_eq_true rfl⟩ (fun r u H locs hp hP hS => ?_)
              obtain ⟨rfl, rfl⟩ := hp
              refine lv_iload S.1 S.2.1 d_B_recordCue_115 (lv_at hl 0 rfl) ?_
              refine lv_iadd S.1 S.2.1 d_B_recordCue_117 ?_
              refine lv_sipush (v := 600) S.1 S.2.1 d_B_recordCue_118 (by decide) ?_
              refine lv_icmp_le (tgt := 126) S.1 S.2.1 d_B_recordCue_121 (by decide) (fun c_m => ?_) (fun c_m => ?_)
              · refine lv_iload S.1 S.2.1 d_B_recordCue_126 (lv_at hl 2 rfl) ?_
                refine lv_if_eq (tgt := 139) S.1 S.2.1 d_B_recordCue_128 (by decide) (fun c_33 => ?_) (fun c_33 => ?_)
                · refine lv_iload S.1 S.2.1 d_B_recordCue_139 (lv_at hl 1 rfl) ?_
                  refine lv_iconst (v := (-1)) S.1 S.2.1 d_B_recordCue_141 (by decide) ?_
                  refine lv_icmp_eq (tgt := 164) S.1 S.2.1 d_B_recordCue_142 (by decide) (fun c_34 => ?_) (fun c_34 => ?_)
                  · refine lv_aload_n S.1 S.2.1 d_B_recordCue_164 rfl (lv_at hl 4 rfl) ?_
                    refine lv_iload S.1 S.2.1 d_B_recordCue_165 (lv_at hl 3 rfl) ?_
                    refine lv_aload_n S.1 S.2.1 d_B_recordCue_167 rfl (lv_at hl 5 rfl) ?_
                    refine uVv (n := 2) (b := 4) (As := [.int (nI (pFor v π n a b)), .ref (ad 87)]) (rest := []) S hK hN hP hS (c_B_putAll hJ v π M hM n hB (pFor v π n a b) 40 (by omega) (by decide)) ⟨hU, t2_170, t2_167, t1_5, by decide +kernel, by decide, by decide⟩ t2_169 tp_5 (by decide) xg_book rfl rfl rfl hl.1 rfl (Nat.le_of_ble_eq_true rfl) d_B_recordCue_168 ⟨Nat.le_of_ble_eq_true rfl, Nat.le_of_ble_eq_true rfl⟩ (fun u H locs hp hP hS => ?_)
                    obtain rfl := hp
                    have hBw_35 := pa_bk (q := (pFor v π n a b)) (k := 40) hB M
                    obtain ⟨w_35, hw_35⟩ : ∃ z, z = pa v π (pFor v π n a b) 40 M := ⟨_, rfl⟩
                    rw [← hw_35] at hP hBw_35
                    refine lv_aload_n S.1 S.2.1 d_B_recordCue_171 rfl (lv_at hl 4 rfl) ?_
                    refine ur_get (k := 4) (v := .ref (ad 5)) S hK hP (by decide) xg_book rfl (fun w h => hU w (in_B w h)) 0 (by decide) (hU _ t1_106) rfl d_B_recordCue_172 ?_
                    refine lv_iload S.1 S.2.1 d_B_recordCue_175 (lv_at hl 3 rfl) ?_
                    refine ur_aald (k := 5) (q := ad (89 + π (pFor v π n a b))) (j := (pFor v π n a b)) S hK hP (by decide) 2 xg_cues rfl rfl (by omega) (by decide) rfl d_B_recordCue_177 ?_
                    refine ur_getN (k := (89 + (π (pFor v π n a b)))) (v := .ref (ad (7 + 2 * (π (pFor v π n a b))))) S hK hP (kb_C (hBw_35.2.2 _ (by omega))) (xg_cue (hBw_35.2.2 _ (by omega))) rfl (fun w h => hU w (in_C w h)) 0 (by decide) (hN _ t1_74) rfl d_B_recordCue_178 ?_
                    refine ur_getN (k := (7 + 2 * (π (pFor v π n a b)))) (v := .int (w_35 16 (π (pFor v π n a b)) 0)) S hK hP (kb_V (Nat.lt_succ_of_lt (hBw_35.2.2 _ (by omega)))) (xg_row (Nat.lt_succ_of_lt (hBw_35.2.2 _ (by omega)))) rfl (fun w h => hU w (in_V w h)) 1 (by decide) (hN _ t1_37) rfl d_B_recordCue_181 ?_
                    have e9 : kpr v π n a b x4 = none := by unfold kpr; first | rw [if_pos c_k] | rw [if_neg c_k, hX_1]
                    have h9 := c_m
                    try rw [ex_31] at h9
                    exact uIret S hr hlk (w_35, π) hP hS (by subst hw_35; unfold recPost; rw [hX_1]; show ite _ _ _; rw [e9]; rw [if_neg (fun z => z (by simpa [kl] using h9))]; exact ⟨rfl, rfl⟩) d_B_recordCue_184
                  · exact absurd rfl c_34
                · exact absurd (by decide) c_33
              · refine lv_iconst (v := (-1)) S.1 S.2.1 d_B_recordCue_124 (by decide) ?_
                have e9 : kpr v π n a b x4 = none := by unfold kpr; first | rw [if_pos c_k] | rw [if_neg c_k, hX_1]
                have h9 := c_m
                try rw [ex_31] at h9
                exact uIret S hr hlk (v, π) hP hS (by unfold recPost; rw [hX_1]; show ite _ _ _; rw [e9]; rw [if_pos (by simpa [kl] using h9)]; exact ⟨rfl, rfl⟩) d_B_recordCue_125
            · exact absurd rfl c_32
          · exact absurd (by decide) c_30
        · refine lv_aload_n S.1 S.2.1 d_B_recordCue_46 rfl (lv_at hl 2 rfl) ?_
          refine lv_iload_n S.1 S.2.1 d_B_recordCue_47 rfl (lv_at hl 4 rfl) ?_
          refine lv_iload_n S.1 S.2.1 d_B_recordCue_48 rfl (lv_at hl 5 rfl) ?_
          refine uVi (n := 2) (b := 4) (As := [.int a, .int b]) (rest := []) S hK hN hP hS (c_B_placeAbove hJ v π n hB a b) ⟨hU, t2_127, t2_124, t1_5, by decide +kernel, by decide, by decide⟩ t2_125 t2_126 (by decide) xg_book rfl rfl rfl hl.1 rfl (Nat.le_of_ble_eq_true rfl) d_B_recordCue_49 ⟨Nat.le_of_ble_eq_true rfl, Nat.le_of_ble_eq_true rfl⟩ (fun r u H locs hp hP hS => ?_)
          obtain ⟨rfl, rfl⟩ := hp
          rcases hX_36 : abvO v π n a b with _ | p_37
          · refine lv_goto (tgt := 56) S.1 S.2.1 d_B_recordCue_52 (by decide) ?_
            refine lv_istore (lv' := [(7, .int (-1)), (6, .int 0), (5, .int (nI (pFor v π n a b))), (0, .ref (ad 4)), (1, .ref (ad 87)), (2, .int a), (3, .int b), (4, .int x4)]) S.1 S.2.1 d_B_recordCue_56 hl (by decide) rfl (fun ls hl => ?_)
            refine lv_iload S.1 S.2.1 d_B_recordCue_58 (lv_at hl 1 rfl) ?_
            refine lv_if_eq (tgt := 70) S.1 S.2.1 d_B_recordCue_60 (by decide) (fun c_38 => ?_) (fun c_38 => ?_)
            · refine lv_aload_n S.1 S.2.1 d_B_recordCue_70 rfl (lv_at hl 3 rfl) ?_
              refine ur_get (k := 4) (v := .ref (ad 5)) S hK hP (by decide) xg_book rfl (fun w h => hU w (in_B w h)) 0 (by decide) (hU _ t1_106) rfl d_B_recordCue_71 ?_
              refine lv_iload S.1 S.2.1 d_B_recordCue_74 (lv_at hl 2 rfl) ?_
              refine ur_aald (k := 5) (q := ad (89 + π (pFor v π n a b))) (j := (pFor v π n a b)) S hK hP (by decide) 2 xg_cues rfl rfl (by omega) (by decide) rfl d_B_recordCue_76 ?_
              refine ur_getN (k := (89 + (π (pFor v π n a b)))) (v := .ref (ad (7 + 2 * (π (pFor v π n a b))))) S hK hP (kb_C (hB.2.2 _ (by omega))) (xg_cue (hB.2.2 _ (by omega))) rfl (fun w h => hU w (in_C w h)) 0 (by decide) (hN _ t1_74) rfl d_B_recordCue_77 ?_
              refine lv_aload_n S.1 S.2.1 d_B_recordCue_80 rfl (lv_at hl 4 rfl) ?_
              refine uVi (n := 1) (b := (7 + 2 * (π (pFor v π n a b)))) (As := [.ref (ad 87)]) (rest := []) S hK hN hP hS (c_V_lackedOf hJ v π M hM (π (pFor v π n a b)) 40 (Nat.lt_succ_of_lt (hB.2.2 _ (by omega))) (by decide)) ⟨hU, t2_131, t2_128, t1_2, by decide +kernel, by decide, by decide⟩ t2_129 t2_130 (kb_V (Nat.lt_succ_of_lt (hB.2.2 _ (by omega)))) (xg_row (Nat.lt_succ_of_lt (hB.2.2 _ (by omega)))) rfl rfl rfl hl.1 rfl (Nat.le_of_ble_eq_true rfl) d_B_recordCue_81 ⟨Nat.le_of_ble_eq_true rfl, Nat.le_of_ble_eq_true rfl⟩ (fun r u H locs hp hP hS => ?_)
              obtain ⟨rfl, rfl⟩ := hp
              refine lv_topi (fun x_39 ex_39 => ?_)
              refine lv_istore (lv' := [(8, .int x_39), (7, .int (-1)), (6, .int 0), (5, .int (nI (pFor v π n a b))), (0, .ref (ad 4)), (1, .ref (ad 87)), (2, .int a), (3, .int b), (4, .int x4)]) S.1 S.2.1 d_B_recordCue_84 hl (by decide) rfl (fun ls hl => ?_)
              refine lv_iload S.1 S.2.1 d_B_recordCue_86 (lv_at hl 1 rfl) ?_
              refine lv_iconst (v := (-1)) S.1 S.2.1 d_B_recordCue_88 (by decide) ?_
              refine lv_icmp_eq (tgt := 111) S.1 S.2.1 d_B_recordCue_89 (by decide) (fun c_40 => ?_) (fun c_40 => ?_)
              · refine lv_aload_n S.1 S.2.1 d_B_recordCue_111 rfl (lv_at hl 4 rfl) ?_
                refine uVi (n := 0) (b := 4) (As := []) (rest := []) S hK hN hP hS (c_B_moveCount hJ v π n hB) ⟨hU, t2_37, t2_136, t1_5, by decide +kernel, by decide, by decide⟩ t2_35 t2_36 (by decide) xg_book rfl rfl rfl hl.1 rfl (Nat.le_of_ble_eq_true rfl) d_B_recordCue_112 ⟨Nat.le_of_ble_eq_true rfl, Nat.le_of_ble_eq_true rfl⟩ (fun r u H locs hp hP hS => ?_)
                obtain ⟨rfl, rfl⟩ := hp
                refine lv_iload S.1 S.2.1 d_B_recordCue_115 (lv_at hl 0 rfl) ?_
                refine lv_iadd S.1 S.2.1 d_B_recordCue_117 ?_
                refine lv_sipush (v := 600) S.1 S.2.1 d_B_recordCue_118 (by decide) ?_
                refine lv_icmp_le (tgt := 126) S.1 S.2.1 d_B_recordCue_121 (by decide) (fun c_m => ?_) (fun c_m => ?_)
                · refine lv_iload S.1 S.2.1 d_B_recordCue_126 (lv_at hl 2 rfl) ?_
                  refine lv_if_eq (tgt := 139) S.1 S.2.1 d_B_recordCue_128 (by decide) (fun c_41 => ?_) (fun c_41 => ?_)
                  · refine lv_iload S.1 S.2.1 d_B_recordCue_139 (lv_at hl 1 rfl) ?_
                    refine lv_iconst (v := (-1)) S.1 S.2.1 d_B_recordCue_141 (by decide) ?_
                    refine lv_icmp_eq (tgt := 164) S.1 S.2.1 d_B_recordCue_142 (by decide) (fun c_42 => ?_) (fun c_42 => ?_)
                    · refine lv_aload_n S.1 S.2.1 d_B_recordCue_164 rfl (lv_at hl 4 rfl) ?_
                      refine lv_iload S.1 S.2.1 d_B_recordCue_165 (lv_at hl 3 rfl) ?_
                      refine lv_aload_n S.1 S.2.1 d_B_recordCue_167 rfl (lv_at hl 5 rfl) ?_
                      refine uVv (n := 2) (b := 4) (As := [.int (nI (pFor v π n a b)), .ref (ad 87)]) (rest := []) S hK hN hP hS (c_B_putAll hJ v π M hM n hB (pFor v π n a b) 40 (by omega) (by decide)) ⟨hU, t2_170, t2_167, t1_5, by decide +kernel, by decide, by decide⟩ t2_169 tp_5 (by decide) xg_book rfl rfl rfl hl.1 rfl (Nat.le_of_ble_eq_true rfl) d_B_recordCue_168 ⟨Nat.le_of_ble_eq_true rfl, Nat.le_of_ble_eq_true rfl⟩ (fun u H locs hp hP hS => ?_)
                      obtain rfl := hp
                      have hBw_43 := pa_bk (q := (pFor v π n a b)) (k := 40) hB M
                      obtain ⟨w_43, hw_43⟩ : ∃ z, z = pa v π (pFor v π n a b) 40 M := ⟨_, rfl⟩
                      rw [← hw_43] at hP hBw_43
                      refine lv_aload_n S.1 S.2.1 d_B_recordCue_171 rfl (lv_at hl 4 rfl) ?_
                      refine ur_get (k := 4) (v := .ref (ad 5)) S hK hP (by decide) xg_book rfl (fun w h => hU w (in_B w h)) 0 (by decide) (hU _ t1_106) rfl d_B_recordCue_172 ?_
                      refine lv_iload S.1 S.2.1 d_B_recordCue_175 (lv_at hl 3 rfl) ?_
                      refine ur_aald (k := 5) (q := ad (89 + π (pFor v π n a b))) (j := (pFor v π n a b)) S hK hP (by decide) 2 xg_cues rfl rfl (by omega) (by decide) rfl d_B_recordCue_177 ?_
                      refine ur_getN (k := (89 + (π (pFor v π n a b)))) (v := .ref (ad (7 + 2 * (π (pFor v π n a b))))) S hK hP (kb_C (hBw_43.2.2 _ (by omega))) (xg_cue (hBw_43.2.2 _ (by omega))) rfl (fun w h => hU w (in_C w h)) 0 (by decide) (hN _ t1_74) rfl d_B_recordCue_178 ?_
                      refine ur_getN (k := (7 + 2 * (π (pFor v π n a b)))) (v := .int (w_43 16 (π (pFor v π n a b)) 0)) S hK hP (kb_V (Nat.lt_succ_of_lt (hBw_43.2.2 _ (by omega)))) (xg_row (Nat.lt_succ_of_lt (hBw_43.2.2 _ (by omega)))) rfl (fun w h => hU w (in_V w h)) 1 (by decide) (hN _ t1_37) rfl d_B_recordCue_181 ?_
                      have e9 : kpr v π n a b x4 = none := by unfold kpr; first | rw [if_pos c_k] | rw [if_neg c_k, hX_36]
                      have h9 := c_m
                      try rw [ex_39] at h9
                      exact uIret S hr hlk (w_43, π) hP hS (by subst hw_43; unfold recPost; rw [hX_1]; show ite _ _ _; rw [e9]; rw [if_neg (fun z => z (by simpa [kl] using h9))]; exact ⟨rfl, rfl⟩) d_B_recordCue_184
                    · exact absurd rfl c_42
                  · exact absurd (by decide) c_41
                · refine lv_iconst (v := (-1)) S.1 S.2.1 d_B_recordCue_124 (by decide) ?_
                  have e9 : kpr v π n a b x4 = none := by unfold kpr; first | rw [if_pos c_k] | rw [if_neg c_k, hX_36]
                  have h9 := c_m
                  try rw [ex_39] at h9
                  exact uIret S hr hlk (v, π) hP hS (by unfold recPost; rw [hX_1]; show ite _ _ _; rw [e9]; rw [if_pos (by simpa [kl] using h9)]; exact ⟨rfl, rfl⟩) d_B_recordCue_125
              · exact absurd rfl c_40
            · exact absurd (by decide) c_38
          · have hp_37 : p_37 < n := abvO_lt _ hX_36
            refine lv_goto (tgt := 56) S.1 S.2.1 d_B_recordCue_52 (by decide) ?_
            refine lv_istore (lv' := [(7, .int (nI p_37)), (6, .int 0), (5, .int (nI (pFor v π n a b))), (0, .ref (ad 4)), (1, .ref (ad 87)), (2, .int a), (3, .int b), (4, .int x4)]) S.1 S.2.1 d_B_recordCue_56 hl (by decide) rfl (fun ls hl => ?_)
            refine lv_iload S.1 S.2.1 d_B_recordCue_58 (lv_at hl 1 rfl) ?_
            refine lv_if_eq (tgt := 70) S.1 S.2.1 d_B_recordCue_60 (by decide) (fun c_44 => ?_) (fun c_44 => ?_)
            · refine lv_aload_n S.1 S.2.1 d_B_recordCue_70 rfl (lv_at hl 3 rfl) ?_
              refine ur_get (k := 4) (v := .ref (ad 5)) S hK hP (by decide) xg_book rfl (fun w h => hU w (in_B w h)) 0 (by decide) (hU _ t1_106) rfl d_B_recordCue_71 ?_
              refine lv_iload S.1 S.2.1 d_B_recordCue_74 (lv_at hl 2 rfl) ?_
              refine ur_aald (k := 5) (q := ad (89 + π (pFor v π n a b))) (j := (pFor v π n a b)) S hK hP (by decide) 2 xg_cues rfl rfl (by omega) (by decide) rfl d_B_recordCue_76 ?_
              refine ur_getN (k := (89 + (π (pFor v π n a b)))) (v := .ref (ad (7 + 2 * (π (pFor v π n a b))))) S hK hP (kb_C (hB.2.2 _ (by omega))) (xg_cue (hB.2.2 _ (by omega))) rfl (fun w h => hU w (in_C w h)) 0 (by decide) (hN _ t1_74) rfl d_B_recordCue_77 ?_
              refine lv_aload_n S.1 S.2.1 d_B_recordCue_80 rfl (lv_at hl 4 rfl) ?_
              refine uVi (n := 1) (b := (7 + 2 * (π (pFor v π n a b)))) (As := [.ref (ad 87)]) (rest := []) S hK hN hP hS (c_V_lackedOf hJ v π M hM (π (pFor v π n a b)) 40 (Nat.lt_succ_of_lt (hB.2.2 _ (by omega))) (by decide)) ⟨hU, t2_131, t2_128, t1_2, by decide +kernel, by decide, by decide⟩ t2_129 t2_130 (kb_V (Nat.lt_succ_of_lt (hB.2.2 _ (by omega)))) (xg_row (Nat.lt_succ_of_lt (hB.2.2 _ (by omega)))) rfl rfl rfl hl.1 rfl (Nat.le_of_ble_eq_true rfl) d_B_recordCue_81 ⟨Nat.le_of_ble_eq_true rfl, Nat.le_of_ble_eq_true rfl⟩ (fun r u H locs hp hP hS => ?_)
              obtain ⟨rfl, rfl⟩ := hp
              refine lv_topi (fun x_45 ex_45 => ?_)
              refine lv_istore (lv' := [(8, .int x_45), (7, .int (nI p_37)), (6, .int 0), (5, .int (nI (pFor v π n a b))), (0, .ref (ad 4)), (1, .ref (ad 87)), (2, .int a), (3, .int b), (4, .int x4)]) S.1 S.2.1 d_B_recordCue_84 hl (by decide) rfl (fun ls hl => ?_)
              refine lv_iload S.1 S.2.1 d_B_recordCue_86 (lv_at hl 1 rfl) ?_
              refine lv_iconst (v := (-1)) S.1 S.2.1 d_B_recordCue_88 (by decide) ?_
              refine lv_icmp_eq (tgt := 111) S.1 S.2.1 d_B_recordCue_89 (by decide) (fun c_46 => ?_) (fun c_46 => ?_)
              · exact absurd c_46 (nI_nm1 (by omega))
              · refine lv_iload S.1 S.2.1 d_B_recordCue_92 (lv_at hl 0 rfl) ?_
                refine lv_aload_n S.1 S.2.1 d_B_recordCue_94 rfl (lv_at hl 4 rfl) ?_
                refine ur_get (k := 4) (v := .ref (ad 5)) S hK hP (by decide) xg_book rfl (fun w h => hU w (in_B w h)) 0 (by decide) (hU _ t1_106) rfl d_B_recordCue_95 ?_
                refine lv_iload S.1 S.2.1 d_B_recordCue_98 (lv_at hl 1 rfl) ?_
                refine ur_aald (k := 5) (q := ad (89 + π p_37)) (j := p_37) S hK hP (by decide) 2 xg_cues rfl rfl (by omega) (by decide) rfl d_B_recordCue_100 ?_
                refine ur_getN (k := (89 + (π p_37))) (v := .ref (ad (7 + 2 * (π p_37)))) S hK hP (kb_C (hB.2.2 _ (by omega))) (xg_cue (hB.2.2 _ (by omega))) rfl (fun w h => hU w (in_C w h)) 0 (by decide) (hN _ t1_74) rfl d_B_recordCue_101 ?_
                refine lv_aload_n S.1 S.2.1 d_B_recordCue_104 rfl (lv_at hl 5 rfl) ?_
                refine uVi (n := 1) (b := (7 + 2 * (π p_37))) (As := [.ref (ad 87)]) (rest := [.int x_45]) S hK hN hP hS (c_V_lackedOf hJ v π M hM (π p_37) 40 (Nat.lt_succ_of_lt (hB.2.2 _ (by omega))) (by decide)) ⟨hU, t2_131, t2_128, t1_2, by decide +kernel, by decide, by decide⟩ t2_129 t2_130 (kb_V (Nat.lt_succ_of_lt (hB.2.2 _ (by omega)))) (xg_row (Nat.lt_succ_of_lt (hB.2.2 _ (by omega)))) rfl rfl rfl hl.1 rfl (Nat.le_of_ble_eq_true rfl) d_B_recordCue_105 ⟨Nat.le_of_ble_eq_true rfl, Nat.le_of_ble_eq_true rfl⟩ (fun r u H locs hp hP hS => ?_)
                obtain ⟨rfl, rfl⟩ := hp
                refine lv_iadd S.1 S.2.1 d_B_recordCue_108 ?_
                refine lv_topi (fun x_47 ex_47 => ?_)
                refine lv_istore (lv' := [(8, .int x_47), (7, .int (nI p_37)), (6, .int 0), (5, .int (nI (pFor v π n a b))), (0, .ref (ad 4)), (1, .ref (ad 87)), (2, .int a), (3, .int b), (4, .int x4)]) S.1 S.2.1 d_B_recordCue_109 hl (by decide) rfl (fun ls hl => ?_)
                refine lv_aload_n S.1 S.2.1 d_B_recordCue_111 rfl (lv_at hl 4 rfl) ?_
                refine uVi (n := 0) (b := 4) (As := []) (rest := []) S hK hN hP hS (c_B_moveCount hJ v π n hB) ⟨hU, t2_37, t2_136, t1_5, by decide +kernel, by decide, by decide⟩ t2_35 t2_36 (by decide) xg_book rfl rfl rfl hl.1 rfl (Nat.le_of_ble_eq_true rfl) d_B_recordCue_112 ⟨Nat.le_of_ble_eq_true rfl, Nat.le_of_ble_eq_true rfl⟩ (fun r u H locs hp hP hS => ?_)
                obtain ⟨rfl, rfl⟩ := hp
                refine lv_iload S.1 S.2.1 d_B_recordCue_115 (lv_at hl 0 rfl) ?_
                refine lv_iadd S.1 S.2.1 d_B_recordCue_117 ?_
                refine lv_sipush (v := 600) S.1 S.2.1 d_B_recordCue_118 (by decide) ?_
                refine lv_icmp_le (tgt := 126) S.1 S.2.1 d_B_recordCue_121 (by decide) (fun c_m => ?_) (fun c_m => ?_)
                · refine lv_iload S.1 S.2.1 d_B_recordCue_126 (lv_at hl 2 rfl) ?_
                  refine lv_if_eq (tgt := 139) S.1 S.2.1 d_B_recordCue_128 (by decide) (fun c_48 => ?_) (fun c_48 => ?_)
                  · refine lv_iload S.1 S.2.1 d_B_recordCue_139 (lv_at hl 1 rfl) ?_
                    refine lv_iconst (v := (-1)) S.1 S.2.1 d_B_recordCue_141 (by decide) ?_
                    refine lv_icmp_eq (tgt := 164) S.1 S.2.1 d_B_recordCue_142 (by decide) (fun c_49 => ?_) (fun c_49 => ?_)
                    · exact absurd c_49 (nI_nm1 (by omega))
                    · refine lv_aload_n S.1 S.2.1 d_B_recordCue_145 rfl (lv_at hl 4 rfl) ?_
                      refine lv_iload S.1 S.2.1 d_B_recordCue_146 (lv_at hl 2 rfl) ?_
                      refine lv_if_eq (tgt := 158) S.1 S.2.1 d_B_recordCue_148 (by decide) (fun c_50 => ?_) (fun c_50 => ?_)
                      · refine lv_iload S.1 S.2.1 d_B_recordCue_158 (lv_at hl 1 rfl) ?_
                        refine lv_aload_n S.1 S.2.1 d_B_recordCue_160 rfl (lv_at hl 5 rfl) ?_
                        refine uVv (n := 2) (b := 4) (As := [.int (nI p_37), .ref (ad 87)]) (rest := []) S hK hN hP hS (c_B_keepChannels hJ v π M hM n hB p_37 40 (by omega) (by decide)) ⟨hU, t2_149, t2_146, t1_5, by decide +kernel, by decide, by decide⟩ t2_148 tp_4 (by decide) xg_book rfl rfl rfl hl.1 rfl (Nat.le_of_ble_eq_true rfl) d_B_recordCue_161 ⟨Nat.le_of_ble_eq_true rfl, Nat.le_of_ble_eq_true rfl⟩ (fun u H locs hp hP hS => ?_)
                        obtain rfl := hp
                        have hBw_51 := kp_bk (q := p_37) (k := 40) hB M
                        obtain ⟨w_51, hw_51⟩ : ∃ z, z = kp v π p_37 40 M := ⟨_, rfl⟩
                        rw [← hw_51] at hP hBw_51
                        refine lv_aload_n S.1 S.2.1 d_B_recordCue_164 rfl (lv_at hl 4 rfl) ?_
                        refine lv_iload S.1 S.2.1 d_B_recordCue_165 (lv_at hl 3 rfl) ?_
                        refine lv_aload_n S.1 S.2.1 d_B_recordCue_167 rfl (lv_at hl 5 rfl) ?_
                        refine uVv (n := 2) (b := 4) (As := [.int (nI (pFor v π n a b)), .ref (ad 87)]) (rest := []) S hK hN hP hS (c_B_putAll hJ w_51 π M hM n hBw_51 (pFor v π n a b) 40 (by omega) (by decide)) ⟨hU, t2_170, t2_167, t1_5, by decide +kernel, by decide, by decide⟩ t2_169 tp_5 (by decide) xg_book rfl rfl rfl hl.1 rfl (Nat.le_of_ble_eq_true rfl) d_B_recordCue_168 ⟨Nat.le_of_ble_eq_true rfl, Nat.le_of_ble_eq_true rfl⟩ (fun u H locs hp hP hS => ?_)
                        obtain rfl := hp
                        have hBw_52 := pa_bk (q := (pFor v π n a b)) (k := 40) hBw_51 M
                        obtain ⟨w_52, hw_52⟩ : ∃ z, z = pa w_51 π (pFor v π n a b) 40 M := ⟨_, rfl⟩
                        rw [← hw_52] at hP hBw_52
                        refine lv_aload_n S.1 S.2.1 d_B_recordCue_171 rfl (lv_at hl 4 rfl) ?_
                        refine ur_get (k := 4) (v := .ref (ad 5)) S hK hP (by decide) xg_book rfl (fun w h => hU w (in_B w h)) 0 (by decide) (hU _ t1_106) rfl d_B_recordCue_172 ?_
                        refine lv_iload S.1 S.2.1 d_B_recordCue_175 (lv_at hl 3 rfl) ?_
                        refine ur_aald (k := 5) (q := ad (89 + π (pFor v π n a b))) (j := (pFor v π n a b)) S hK hP (by decide) 2 xg_cues rfl rfl (by omega) (by decide) rfl d_B_recordCue_177 ?_
                        refine ur_getN (k := (89 + (π (pFor v π n a b)))) (v := .ref (ad (7 + 2 * (π (pFor v π n a b))))) S hK hP (kb_C (hBw_52.2.2 _ (by omega))) (xg_cue (hBw_52.2.2 _ (by omega))) rfl (fun w h => hU w (in_C w h)) 0 (by decide) (hN _ t1_74) rfl d_B_recordCue_178 ?_
                        refine ur_getN (k := (7 + 2 * (π (pFor v π n a b)))) (v := .int (w_52 16 (π (pFor v π n a b)) 0)) S hK hP (kb_V (Nat.lt_succ_of_lt (hBw_52.2.2 _ (by omega)))) (xg_row (Nat.lt_succ_of_lt (hBw_52.2.2 _ (by omega)))) rfl (fun w h => hU w (in_V w h)) 1 (by decide) (hN _ t1_37) rfl d_B_recordCue_181 ?_
                        have e9 : kpr v π n a b x4 = (some p_37) := by unfold kpr; first | rw [if_pos c_k] | rw [if_neg c_k, hX_36]
                        have h9 := c_m
                        try rw [ex_47] at h9; try rw [ex_45] at h9
                        exact uIret S hr hlk (w_52, π) hP hS (by subst hw_52; subst hw_51; unfold recPost; rw [hX_1]; show ite _ _ _; rw [e9]; rw [if_neg (fun z => z (by simpa [kl] using h9))]; exact ⟨rfl, rfl⟩) d_B_recordCue_184
                      · exact absurd (by decide) c_50
                  · exact absurd (by decide) c_48
                · refine lv_iconst (v := (-1)) S.1 S.2.1 d_B_recordCue_124 (by decide) ?_
                  have e9 : kpr v π n a b x4 = (some p_37) := by unfold kpr; first | rw [if_pos c_k] | rw [if_neg c_k, hX_36]
                  have h9 := c_m
                  try rw [ex_47] at h9; try rw [ex_45] at h9
                  exact uIret S hr hlk (v, π) hP hS (by unfold recPost; rw [hX_1]; show ite _ _ _; rw [e9]; rw [if_pos (by simpa [kl] using h9)]; exact ⟨rfl, rfl⟩) d_B_recordCue_125
            · exact absurd (by decide) c_44
      · exact absurd (by decide) c_29
    · exact absurd c_28 (nI_nm1 (by omega))
