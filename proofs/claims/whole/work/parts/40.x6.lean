/-! The class: delete, record (printed by wip/gen/gen_x6.py) -/
set_option maxRecDepth 100000 in
set_option maxHeartbeats 4000000 in
theorem c_B_deleteCue {l : Launch} {D : va_G} {ca : Nat → ClassId} {ad : Nat → Nat} (hJ : uJ 165 ad) (v : Nat → Nat → Nat → Int32) (π : Nat → Nat) (M : Nat) (hM : M = 64) (n : Nat) (hB : xBk v π n) (q : Nat) (hq : q < n) (x2 : Int32) : uMi l y_B_deleteCue b_B_deleteCue 5 (some .int) 4 92 D clsAll (tysAll ca) 165 ad (xG ca ad) (v, π) [.ref (ad 4), .int (nI q), .int x2] (fun r u => u = (vOut (kps v π (π q) M (delK v π n q x2)) n, pOut π n q) ∧ r = kps v π (π q) M (delK v π n q x2) 16 (π q) 0) := by
  refine uStart (by decide) (Nat.le_of_ble_eq_true rfl) ?_
  intro p e s m below meth c ls S hr hlk hK hN hP hl
  have hU : ∀ w ∈ uWS, w ∈ (Cond.code y_B_deleteCue b_B_deleteCue 5 (some .int) :: uWS) := fun w h => List.mem_cons_of_mem _ h
  have hS : va_S (uA 165 ad s.heap.size) s.heap s.heap [] := va_S.rf
  have hl : lv_has ls 5 [(0, .ref (ad 4)), (1, .int (nI q)), (2, .int x2)] := hl
  have hn40 : n ≤ 40 := hB.2.1
  refine lv_aload_n S.1 S.2.1 d_B_deleteCue_0 rfl (lv_at hl 0 rfl) ?_
  refine ur_get (k := 4) (v := .ref (ad 5)) S hK hP (by decide) xg_book rfl (fun w h => hU w (in_B w h)) 0 (by decide) (hU _ t1_106) rfl d_B_deleteCue_1 ?_
  refine lv_iload_n S.1 S.2.1 d_B_deleteCue_4 rfl (lv_at hl 1 rfl) ?_
  refine ur_aald (k := 5) (q := ad (89 + π q)) (j := q) S hK hP (by decide) 2 xg_cues rfl rfl (by omega) (by decide) rfl d_B_deleteCue_5 ?_
  refine ur_getN (k := (89 + (π q))) (v := .ref (ad (7 + 2 * (π q)))) S hK hP (kb_C (hB.2.2 _ (by omega))) (xg_cue (hB.2.2 _ (by omega))) rfl (fun w h => hU w (in_C w h)) 0 (by decide) (hN _ t1_74) rfl d_B_deleteCue_6 ?_
  refine lv_astore_n (lv' := [(3, .ref (ad (7 + 2 * (π q)))), (0, .ref (ad 4)), (1, .int (nI q)), (2, .int x2)]) S.1 S.2.1 d_B_deleteCue_9 rfl hl (by decide) rfl (fun ls hl => ?_)
  refine lv_aload_n S.1 S.2.1 d_B_deleteCue_10 rfl (lv_at hl 1 rfl) ?_
  refine lv_aload_n S.1 S.2.1 d_B_deleteCue_11 rfl (lv_at hl 1 rfl) ?_
  refine ur_get (k := 4) (v := .ref (ad 5)) S hK hP (by decide) xg_book rfl (fun w h => hU w (in_B w h)) 0 (by decide) (hU _ t1_106) rfl d_B_deleteCue_12 ?_
  refine lv_iload_n S.1 S.2.1 d_B_deleteCue_15 rfl (lv_at hl 2 rfl) ?_
  refine ur_aald (k := 5) (q := ad (89 + π q)) (j := q) S hK hP (by decide) 2 xg_cues rfl rfl (by omega) (by decide) rfl d_B_deleteCue_16 ?_
  refine ur_getN (k := (89 + (π q))) (v := .int (v 10 (π q) 0)) S hK hP (kb_C (hB.2.2 _ (by omega))) (xg_cue (hB.2.2 _ (by omega))) rfl (fun w h => hU w (in_C w h)) 1 (by decide) (hN _ t1_76) rfl d_B_deleteCue_17 ?_
  refine lv_aload_n S.1 S.2.1 d_B_deleteCue_20 rfl (lv_at hl 1 rfl) ?_
  refine ur_get (k := 4) (v := .ref (ad 5)) S hK hP (by decide) xg_book rfl (fun w h => hU w (in_B w h)) 0 (by decide) (hU _ t1_106) rfl d_B_deleteCue_21 ?_
  refine lv_iload_n S.1 S.2.1 d_B_deleteCue_24 rfl (lv_at hl 2 rfl) ?_
  refine ur_aald (k := 5) (q := ad (89 + π q)) (j := q) S hK hP (by decide) 2 xg_cues rfl rfl (by omega) (by decide) rfl d_B_deleteCue_25 ?_
  refine ur_getN (k := (89 + (π q))) (v := .int (v 11 (π q) 0)) S hK hP (kb_C (hB.2.2 _ (by omega))) (xg_cue (hB.2.2 _ (by omega))) rfl (fun w h => hU w (in_C w h)) 2 (by decide) (hN _ t1_78) rfl d_B_deleteCue_26 ?_
  refine uVi (n := 2) (b := 4) (As := [.int (v 10 (π q) 0), .int (v 11 (π q) 0)]) (rest := []) S hK hN hP hS (c_B_placeAbove hJ v π n hB (v 10 (π q) 0) (v 11 (π q) 0)) ⟨hU, t2_127, t2_124, t1_5, by decide +kernel, by decide, by decide⟩ t2_125 t2_126 (by decide) xg_book rfl rfl rfl hl.1 rfl (Nat.le_of_ble_eq_true rfl) d_B_deleteCue_29 ⟨Nat.le_of_ble_eq_true rfl, Nat.le_of_ble_eq_true rfl⟩ (fun r u H locs hp hP hS => ?_)
  obtain ⟨rfl, rfl⟩ := hp
  rcases hX_1 : abvO v π n (v 10 (π q) 0) (v 11 (π q) 0) with _ | p_2
  · refine lv_istore (lv' := [(4, .int (-1)), (3, .ref (ad (7 + 2 * (π q)))), (0, .ref (ad 4)), (1, .int (nI q)), (2, .int x2)]) S.1 S.2.1 d_B_deleteCue_32 hl (by decide) rfl (fun ls hl => ?_)
    refine lv_iload_n S.1 S.2.1 d_B_deleteCue_34 rfl (lv_at hl 4 rfl) ?_
    refine lv_if_eq (tgt := 51) S.1 S.2.1 d_B_deleteCue_35 (by decide) (fun c_k => ?_) (fun c_k => ?_)
    · refine lv_aload_n S.1 S.2.1 d_B_deleteCue_51 rfl (lv_at hl 2 rfl) ?_
      refine lv_iload_n S.1 S.2.1 d_B_deleteCue_52 rfl (lv_at hl 3 rfl) ?_
      refine uVv (n := 1) (b := 4) (As := [.int (nI q)]) (rest := []) S hK hN hP hS (c_B_takeOut hJ v π n hB q (by omega)) ⟨hU, t3_0, t2_237, t1_5, by decide +kernel, by decide, by decide⟩ t2_239 tp_7 (by decide) xg_book rfl rfl rfl hl.1 rfl (Nat.le_of_ble_eq_true rfl) d_B_deleteCue_53 ⟨Nat.le_of_ble_eq_true rfl, Nat.le_of_ble_eq_true rfl⟩ (fun u H locs hp hP hS => ?_)
      obtain rfl := hp
      refine lv_aload_n S.1 S.2.1 d_B_deleteCue_56 rfl (lv_at hl 1 rfl) ?_
      refine ur_getN (k := (7 + 2 * (π q))) (v := .int ((vOut v n) 16 (π q) 0)) S hK hP (kb_V (Nat.lt_succ_of_lt (hB.2.2 _ (by omega)))) (xg_row (Nat.lt_succ_of_lt (hB.2.2 _ (by omega)))) rfl (fun w h => hU w (in_V w h)) 1 (by decide) (hN _ t1_37) rfl d_B_deleteCue_57 ?_
      have e9 : delK v π n q x2 = none := by unfold delK; first | rw [if_pos c_k] | rw [if_neg c_k, hX_1]
      exact uIret S hr hlk ((vOut v n), (pOut π n q)) hP hS (by rw [e9]; exact ⟨rfl, by simp [vOut, up3_f, kps]⟩) d_B_deleteCue_60
    · refine lv_iload S.1 S.2.1 d_B_deleteCue_38 (lv_at hl 0 rfl) ?_
      refine lv_iconst (v := (-1)) S.1 S.2.1 d_B_deleteCue_40 (by decide) ?_
      refine lv_icmp_eq (tgt := 51) S.1 S.2.1 d_B_deleteCue_41 (by decide) (fun c_3 => ?_) (fun c_3 => ?_)
      · refine lv_aload_n S.1 S.2.1 d_B_deleteCue_51 rfl (lv_at hl 2 rfl) ?_
        refine lv_iload_n S.1 S.2.1 d_B_deleteCue_52 rfl (lv_at hl 3 rfl) ?_
        refine uVv (n := 1) (b := 4) (As := [.int (nI q)]) (rest := []) S hK hN hP hS (c_B_takeOut hJ v π n hB q (by omega)) ⟨hU, t3_0, t2_237, t1_5, by decide +kernel, by decide, by decide⟩ t2_239 tp_7 (by decide) xg_book rfl rfl rfl hl.1 rfl (Nat.le_of_ble_eq_true rfl) d_B_deleteCue_53 ⟨Nat.le_of_ble_eq_true rfl, Nat.le_of_ble_eq_true rfl⟩ (fun u H locs hp hP hS => ?_)
        obtain rfl := hp
        refine lv_aload_n S.1 S.2.1 d_B_deleteCue_56 rfl (lv_at hl 1 rfl) ?_
        refine ur_getN (k := (7 + 2 * (π q))) (v := .int ((vOut v n) 16 (π q) 0)) S hK hP (kb_V (Nat.lt_succ_of_lt (hB.2.2 _ (by omega)))) (xg_row (Nat.lt_succ_of_lt (hB.2.2 _ (by omega)))) rfl (fun w h => hU w (in_V w h)) 1 (by decide) (hN _ t1_37) rfl d_B_deleteCue_57 ?_
        have e9 : delK v π n q x2 = none := by unfold delK; first | rw [if_pos c_k] | rw [if_neg c_k, hX_1]
        exact uIret S hr hlk ((vOut v n), (pOut π n q)) hP hS (by rw [e9]; exact ⟨rfl, by simp [vOut, up3_f, kps]⟩) d_B_deleteCue_60
      · exact absurd rfl c_3
  · have hp_2 : p_2 < n := abvO_lt _ hX_1
    refine lv_istore (lv' := [(4, .int (nI p_2)), (3, .ref (ad (7 + 2 * (π q)))), (0, .ref (ad 4)), (1, .int (nI q)), (2, .int x2)]) S.1 S.2.1 d_B_deleteCue_32 hl (by decide) rfl (fun ls hl => ?_)
    refine lv_iload_n S.1 S.2.1 d_B_deleteCue_34 rfl (lv_at hl 4 rfl) ?_
    refine lv_if_eq (tgt := 51) S.1 S.2.1 d_B_deleteCue_35 (by decide) (fun c_k => ?_) (fun c_k => ?_)
    · refine lv_aload_n S.1 S.2.1 d_B_deleteCue_51 rfl (lv_at hl 2 rfl) ?_
      refine lv_iload_n S.1 S.2.1 d_B_deleteCue_52 rfl (lv_at hl 3 rfl) ?_
      refine uVv (n := 1) (b := 4) (As := [.int (nI q)]) (rest := []) S hK hN hP hS (c_B_takeOut hJ v π n hB q (by omega)) ⟨hU, t3_0, t2_237, t1_5, by decide +kernel, by decide, by decide⟩ t2_239 tp_7 (by decide) xg_book rfl rfl rfl hl.1 rfl (Nat.le_of_ble_eq_true rfl) d_B_deleteCue_53 ⟨Nat.le_of_ble_eq_true rfl, Nat.le_of_ble_eq_true rfl⟩ (fun u H locs hp hP hS => ?_)
      obtain rfl := hp
      refine lv_aload_n S.1 S.2.1 d_B_deleteCue_56 rfl (lv_at hl 1 rfl) ?_
      refine ur_getN (k := (7 + 2 * (π q))) (v := .int ((vOut v n) 16 (π q) 0)) S hK hP (kb_V (Nat.lt_succ_of_lt (hB.2.2 _ (by omega)))) (xg_row (Nat.lt_succ_of_lt (hB.2.2 _ (by omega)))) rfl (fun w h => hU w (in_V w h)) 1 (by decide) (hN _ t1_37) rfl d_B_deleteCue_57 ?_
      have e9 : delK v π n q x2 = none := by unfold delK; first | rw [if_pos c_k] | rw [if_neg c_k, hX_1]
      exact uIret S hr hlk ((vOut v n), (pOut π n q)) hP hS (by rw [e9]; exact ⟨rfl, by simp [vOut, up3_f, kps]⟩) d_B_deleteCue_60
    · refine lv_iload S.1 S.2.1 d_B_deleteCue_38 (lv_at hl 0 rfl) ?_
      refine lv_iconst (v := (-1)) S.1 S.2.1 d_B_deleteCue_40 (by decide) ?_
      refine lv_icmp_eq (tgt := 51) S.1 S.2.1 d_B_deleteCue_41 (by decide) (fun c_4 => ?_) (fun c_4 => ?_)
      · exact absurd c_4 (nI_nm1 (by omega))
      · refine lv_aload_n S.1 S.2.1 d_B_deleteCue_44 rfl (lv_at hl 2 rfl) ?_
        refine lv_iload S.1 S.2.1 d_B_deleteCue_45 (lv_at hl 0 rfl) ?_
        refine lv_aload_n S.1 S.2.1 d_B_deleteCue_47 rfl (lv_at hl 1 rfl) ?_
        refine uVv (n := 2) (b := 4) (As := [.int (nI p_2), .ref (ad (7 + 2 * (π q)))]) (rest := []) S hK hN hP hS (c_B_keepChannels hJ v π M hM n hB p_2 (π q) (by omega) (Nat.lt_succ_of_lt (hB.2.2 _ (by omega)))) ⟨hU, t2_149, t2_146, t1_5, by decide +kernel, by decide, by decide⟩ t2_148 tp_4 (by decide) xg_book rfl rfl rfl hl.1 rfl (Nat.le_of_ble_eq_true rfl) d_B_deleteCue_48 ⟨Nat.le_of_ble_eq_true rfl, Nat.le_of_ble_eq_true rfl⟩ (fun u H locs hp hP hS => ?_)
        obtain rfl := hp
        have hBw_5 := kp_bk (q := p_2) (k := (π q)) hB M
        obtain ⟨w_5, hw_5⟩ : ∃ z, z = kp v π p_2 (π q) M := ⟨_, rfl⟩
        rw [← hw_5] at hP hBw_5
        refine lv_aload_n S.1 S.2.1 d_B_deleteCue_51 rfl (lv_at hl 2 rfl) ?_
        refine lv_iload_n S.1 S.2.1 d_B_deleteCue_52 rfl (lv_at hl 3 rfl) ?_
        refine uVv (n := 1) (b := 4) (As := [.int (nI q)]) (rest := []) S hK hN hP hS (c_B_takeOut hJ w_5 π n hBw_5 q (by omega)) ⟨hU, t3_0, t2_237, t1_5, by decide +kernel, by decide, by decide⟩ t2_239 tp_7 (by decide) xg_book rfl rfl rfl hl.1 rfl (Nat.le_of_ble_eq_true rfl) d_B_deleteCue_53 ⟨Nat.le_of_ble_eq_true rfl, Nat.le_of_ble_eq_true rfl⟩ (fun u H locs hp hP hS => ?_)
        obtain rfl := hp
        refine lv_aload_n S.1 S.2.1 d_B_deleteCue_56 rfl (lv_at hl 1 rfl) ?_
        refine ur_getN (k := (7 + 2 * (π q))) (v := .int ((vOut w_5 n) 16 (π q) 0)) S hK hP (kb_V (Nat.lt_succ_of_lt (hB.2.2 _ (by omega)))) (xg_row (Nat.lt_succ_of_lt (hB.2.2 _ (by omega)))) rfl (fun w h => hU w (in_V w h)) 1 (by decide) (hN _ t1_37) rfl d_B_deleteCue_57 ?_
        have e9 : delK v π n q x2 = (some p_2) := by unfold delK; first | rw [if_pos c_k] | rw [if_neg c_k, hX_1]
        exact uIret S hr hlk ((vOut w_5 n), (pOut π n q)) hP hS (by subst hw_5; rw [e9]; exact ⟨rfl, by simp [vOut, up3_f, kps]⟩) d_B_deleteCue_60

