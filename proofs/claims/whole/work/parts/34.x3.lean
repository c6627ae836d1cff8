/-! The class: sources, rows, levels, fades (printed by wip/gen/gen_x3.py) -/
set_option maxRecDepth 100000 in
set_option maxHeartbeats 4000000 in
theorem c_B_sourceOfN {l : Launch} {D : va_G} {ca : Nat → ClassId} {ad : Nat → Nat} (hJ : uJ 165 ad) (v : Nat → Nat → Nat → Int32) (π : Nat → Nat) (n : Nat) (hB : xBk v π n) (ch : Nat) (hch : ch < 64) : uMi l y_B_sourceOf b_B_sourceOf 5 (some .int) 1 21 D clsAll (tysAll ca) 165 ad (xG ca ad) (v, π) [.ref (ad 4), .int (-1), .int (nI ch)] (fun r u => u = (v, π) ∧ r = oI none) := by
  refine uStart (by decide) (Nat.le_of_ble_eq_true rfl) ?_
  intro p e s m below meth c ls S hr hlk hK hN hP hl
  have hU : ∀ w ∈ uWS, w ∈ (Cond.code y_B_sourceOf b_B_sourceOf 5 (some .int) :: uWS) := fun w h => List.mem_cons_of_mem _ h
  have hS : va_S (uA 165 ad s.heap.size) s.heap s.heap [] := va_S.rf
  have hl : lv_has ls 5 [(0, .ref (ad 4)), (1, .int (-1)), (2, .int (nI ch))] := hl
  refine lv_iload_n S.1 S.2.1 d_B_sourceOf_0 rfl (lv_at hl 1 rfl) ?_
  refine lv_if_lt (tgt := 12) S.1 S.2.1 d_B_sourceOf_1 (by decide) (fun c_n => ?_) (fun c_n => ?_)
  · refine lv_iconst (v := (-1)) S.1 S.2.1 d_B_sourceOf_12 (by decide) ?_
    exact uIret S hr hlk (v, π) hP hS (⟨rfl, rfl⟩) d_B_sourceOf_13
  · exact absurd (by decide) c_n

set_option maxRecDepth 100000 in
set_option maxHeartbeats 4000000 in
theorem c_B_sourceOfS {l : Launch} {D : va_G} {ca : Nat → ClassId} {ad : Nat → Nat} (hJ : uJ 165 ad) (v : Nat → Nat → Nat → Int32) (π : Nat → Nat) (n : Nat) (hB : xBk v π n) (q ch : Nat) (hq : q < n) (hch : ch < 64) : uMi l y_B_sourceOf b_B_sourceOf 5 (some .int) 1 21 D clsAll (tysAll ca) 165 ad (xG ca ad) (v, π) [.ref (ad 4), .int (nI q), .int (nI ch)] (fun r u => u = (v, π) ∧ r = oI (sGo v π (v 10 (π q) 0) ch (q + 1))) := by
  refine uStart (by decide) (Nat.le_of_ble_eq_true rfl) ?_
  intro p e s m below meth c ls S hr hlk hK hN hP hl
  have hU : ∀ w ∈ uWS, w ∈ (Cond.code y_B_sourceOf b_B_sourceOf 5 (some .int) :: uWS) := fun w h => List.mem_cons_of_mem _ h
  have hS : va_S (uA 165 ad s.heap.size) s.heap s.heap [] := va_S.rf
  have hl : lv_has ls 5 [(0, .ref (ad 4)), (1, .int (nI q)), (2, .int (nI ch))] := hl
  have hn40 : n ≤ 40 := hB.2.1
  refine lv_iload_n S.1 S.2.1 d_B_sourceOf_0 rfl (lv_at hl 1 rfl) ?_
  refine lv_if_lt (tgt := 12) S.1 S.2.1 d_B_sourceOf_1 (by decide) (fun c_n => ?_) (fun c_n => ?_)
  · exact absurd c_n (nI_pos (by omega))
  · refine lv_iload_n S.1 S.2.1 d_B_sourceOf_4 rfl (lv_at hl 1 rfl) ?_
    refine lv_aload_n S.1 S.2.1 d_B_sourceOf_5 rfl (lv_at hl 0 rfl) ?_
    refine ur_get (k := 4) (v := .int (v 4 0 0)) S hK hP (by decide) xg_book rfl (fun w h => hU w (in_B w h)) 1 (by decide) (hU _ t1_107) rfl d_B_sourceOf_6 ?_
    refine lv_icmp_lt (tgt := 14) S.1 S.2.1 d_B_sourceOf_9 (by decide) (fun c_s => ?_) (fun c_s => ?_)
    · refine lv_aload_n S.1 S.2.1 d_B_sourceOf_14 rfl (lv_at hl 0 rfl) ?_
      refine ur_get (k := 4) (v := .ref (ad 5)) S hK hP (by decide) xg_book rfl (fun w h => hU w (in_B w h)) 0 (by decide) (hU _ t1_106) rfl d_B_sourceOf_15 ?_
      refine lv_iload_n S.1 S.2.1 d_B_sourceOf_18 rfl (lv_at hl 1 rfl) ?_
      refine ur_aald (k := 5) (q := ad (89 + π q)) (j := q) S hK hP (by decide) 2 xg_cues rfl rfl (by omega) (by decide) rfl d_B_sourceOf_19 ?_
      refine ur_getN (k := (89 + (π q))) (v := .int (v 10 (π q) 0)) S hK hP (kb_C (hB.2.2 _ (by omega))) (xg_cue (hB.2.2 _ (by omega))) rfl (fun w h => hU w (in_C w h)) 1 (by decide) (hN _ t1_76) rfl d_B_sourceOf_20 ?_
      refine lv_istore_n (lv' := [(3, .int (v 10 (π q) 0)), (0, .ref (ad 4)), (1, .int (nI q)), (2, .int (nI ch))]) S.1 S.2.1 d_B_sourceOf_23 rfl hl (by decide) rfl (fun ls hl => ?_)
      refine lv_iload_n S.1 S.2.1 d_B_sourceOf_24 rfl (lv_at hl 2 rfl) ?_
      refine lv_istore (lv' := [(4, .int (nI q)), (3, .int (v 10 (π q) 0)), (0, .ref (ad 4)), (1, .int (nI q)), (2, .int (nI ch))]) S.1 S.2.1 d_B_sourceOf_25 hl (by decide) rfl (fun ls hl => ?_)
      have L : ∀ k, k ≤ q + 1 → sGo v π (v 10 (π q) 0) ch (q + 1) = sGo v π (v 10 (π q) 0) ch k → ∀ (H : Heap) (locs : List Loc) (ls : Array Slot), va_P D clsAll (uw 165 ad (xG ca ad (v, π))) H → va_S (uA 165 ad s.heap.size) s.heap H locs → lv_has ls 5 [(4, .int (nI k - 1)), (3, .int (v 10 (π q) 0)), (0, .ref (ad 4)), (1, .int (nI q)), (2, .int (nI ch))] → uGi 1 21 D clsAll 165 ad (xG ca ad) (fun r u => u = (v, π) ∧ r = oI (sGo v π (v 10 (π q) 0) ch (q + 1))) [.ref (ad 4), .int (nI q), .int (nI ch)] p l e s m below meth c H locs 27 ls [] := by
        refine downTo ?_ ?_
        · intro hk hI H locs ls hP hS hl
          rw [show nI 0 - 1 = -1 from by decide] at hl
          refine lv_iload S.1 S.2.1 d_B_sourceOf_27 (lv_at hl 0 rfl) ?_
          refine lv_if_lt (tgt := 72) S.1 S.2.1 d_B_sourceOf_29 (by decide) (fun c_z => ?_) (fun c_z => ?_)
          · refine lv_iconst (v := (-1)) S.1 S.2.1 d_B_sourceOf_72 (by decide) ?_
            exact uIret S hr hlk (v, π) hP hS (by refine ⟨rfl, ?_⟩; rw [hI]; rfl) d_B_sourceOf_73
          · exact absurd (by decide) c_z
        · intro i ih hk hI H locs ls hP hS hl
          rw [nI_pred] at hl
          refine lv_iload S.1 S.2.1 d_B_sourceOf_27 (lv_at hl 0 rfl) ?_
          refine lv_if_lt (tgt := 72) S.1 S.2.1 d_B_sourceOf_29 (by decide) (fun c_z => ?_) (fun c_z => ?_)
          · exact absurd c_z (nI_pos (by omega))
          · refine lv_aload_n S.1 S.2.1 d_B_sourceOf_32 rfl (lv_at hl 2 rfl) ?_
            refine ur_get (k := 4) (v := .ref (ad 5)) S hK hP (by decide) xg_book rfl (fun w h => hU w (in_B w h)) 0 (by decide) (hU _ t1_106) rfl d_B_sourceOf_33 ?_
            refine lv_iload S.1 S.2.1 d_B_sourceOf_36 (lv_at hl 0 rfl) ?_
            refine ur_aald (k := 5) (q := ad (89 + π i)) (j := i) S hK hP (by decide) 2 xg_cues rfl rfl (by omega) (by decide) rfl d_B_sourceOf_38 ?_
            refine ur_getN (k := (89 + (π i))) (v := .int (v 10 (π i) 0)) S hK hP (kb_C (hB.2.2 _ (by omega))) (xg_cue (hB.2.2 _ (by omega))) rfl (fun w h => hU w (in_C w h)) 1 (by decide) (hN _ t1_76) rfl d_B_sourceOf_39 ?_
            refine lv_iload_n S.1 S.2.1 d_B_sourceOf_42 rfl (lv_at hl 1 rfl) ?_
            refine lv_icmp_ne (tgt := 72) S.1 S.2.1 d_B_sourceOf_43 (by decide) (fun c_l => ?_) (fun c_l => ?_)
            · refine lv_iconst (v := (-1)) S.1 S.2.1 d_B_sourceOf_72 (by decide) ?_
              exact uIret S hr hlk (v, π) hP hS (by refine ⟨rfl, ?_⟩; rw [hI, sGo, if_neg c_l]; rfl) d_B_sourceOf_73
            · refine lv_aload_n S.1 S.2.1 d_B_sourceOf_46 rfl (lv_at hl 2 rfl) ?_
              refine ur_get (k := 4) (v := .ref (ad 5)) S hK hP (by decide) xg_book rfl (fun w h => hU w (in_B w h)) 0 (by decide) (hU _ t1_106) rfl d_B_sourceOf_47 ?_
              refine lv_iload S.1 S.2.1 d_B_sourceOf_50 (lv_at hl 0 rfl) ?_
              refine ur_aald (k := 5) (q := ad (89 + π i)) (j := i) S hK hP (by decide) 2 xg_cues rfl rfl (by omega) (by decide) rfl d_B_sourceOf_52 ?_
              refine ur_getN (k := (89 + (π i))) (v := .ref (ad (7 + 2 * (π i)))) S hK hP (kb_C (hB.2.2 _ (by omega))) (xg_cue (hB.2.2 _ (by omega))) rfl (fun w h => hU w (in_C w h)) 0 (by decide) (hN _ t1_74) rfl d_B_sourceOf_53 ?_
              refine lv_iload_n S.1 S.2.1 d_B_sourceOf_56 rfl (lv_at hl 4 rfl) ?_
              refine uVi (n := 1) (b := (7 + 2 * (π i))) (As := [.int (nI ch)]) (rest := []) S hK hN hP hS (c_V_has hJ v π (π i) ch (Nat.lt_succ_of_lt (hB.2.2 _ (by omega))) hch) ⟨hU, t2_135, t2_150, t1_2, by decide +kernel, by decide, by decide⟩ t2_133 t2_134 (kb_V (Nat.lt_succ_of_lt (hB.2.2 _ (by omega)))) (xg_row (Nat.lt_succ_of_lt (hB.2.2 _ (by omega)))) rfl rfl rfl hl.1 rfl (Nat.le_of_ble_eq_true rfl) d_B_sourceOf_57 ⟨Nat.le_of_ble_eq_true rfl, Nat.le_of_ble_eq_true rfl⟩ (fun r u H locs hp hP hS => ?_)
              obtain ⟨rfl, rfl⟩ := hp
              refine lv_if_eq (tgt := 66) S.1 S.2.1 d_B_sourceOf_60 (by decide) (fun c_v => ?_) (fun c_v => ?_)
              · have c_v := pI_no c_v
                refine lv_iinc (v := nI i - 1) (lv' := [(4, .int (nI i - 1)), (3, .int (v 10 (π q) 0)), (0, .ref (ad 4)), (1, .int (nI q)), (2, .int (nI ch))]) S.1 S.2.1 d_B_sourceOf_66 hl (k := 0) rfl (nI_dec _) (by decide) rfl (fun ls hl => ?_)
                refine lv_goto (tgt := 27) S.1 S.2.1 d_B_sourceOf_69 (by decide) ?_
                exact ih (by omega) (by rw [hI, sGo, if_pos c_l, if_pos (Decidable.not_not.mp c_v)]) _ _ ls hP hS (lv_sub hl [0, 1, 2, 3, 4] rfl)
              · have c_v := pI_yes c_v
                refine lv_iload S.1 S.2.1 d_B_sourceOf_63 (lv_at hl 0 rfl) ?_
                exact uIret S hr hlk (v, π) hP hS (by refine ⟨rfl, ?_⟩; rw [hI, sGo, if_pos c_l, if_neg c_v]; rfl) d_B_sourceOf_65
      refine L (q + 1) (Nat.le_refl _) rfl _ _ ls hP hS ?_
      rw [nI_pred]
      exact lv_sub hl [0, 1, 2, 3, 4] rfl
    · exact absurd (by rw [hB.1]; exact nI_lt hq (by omega)) c_s

theorem c_B_sourceOf {l : Launch} {D : va_G} {ca : Nat → ClassId} {ad : Nat → Nat} (hJ : uJ 165 ad) (v : Nat → Nat → Nat → Int32) (π : Nat → Nat) (n : Nat) (hB : xBk v π n) (X : Option Nat) (hX : ∀ p, X = some p → p < n) (ch : Nat) (hch : ch < 64) : uMi l y_B_sourceOf b_B_sourceOf 5 (some .int) 1 21 D clsAll (tysAll ca) 165 ad (xG ca ad) (v, π) [.ref (ad 4), .int (oI X), .int (nI ch)] (fun r u => u = (v, π) ∧ r = oI (srcO v π ch X)) := by
  cases X with
  | none => exact c_B_sourceOfN hJ v π n hB ch hch
  | some q => exact c_B_sourceOfS hJ v π n hB q ch (hX q rfl) hch

set_option maxRecDepth 100000 in
set_option maxHeartbeats 4000000 in
theorem c_B_trackedAt {l : Launch} {D : va_G} {ca : Nat → ClassId} {ad : Nat → Nat} (hJ : uJ 165 ad) (v : Nat → Nat → Nat → Int32) (π : Nat → Nat) (n : Nat) (hB : xBk v π n) (X : Option Nat) (hX : ∀ p, X = some p → p < n) (ch : Nat) (hch : ch < 64) : uMi l y_B_trackedAt b_B_trackedAt 4 (some .int) 2 45 D clsAll (tysAll ca) 165 ad (xG ca ad) (v, π) [.ref (ad 4), .int (oI X), .int (nI ch)] (fun r u => u = (v, π) ∧ r = trk v π ch X) := by
  refine uStart (by decide) (Nat.le_of_ble_eq_true rfl) ?_
  intro p e s m below meth c ls S hr hlk hK hN hP hl
  have hU : ∀ w ∈ uWS, w ∈ (Cond.code y_B_trackedAt b_B_trackedAt 4 (some .int) :: uWS) := fun w h => List.mem_cons_of_mem _ h
  have hS : va_S (uA 165 ad s.heap.size) s.heap s.heap [] := va_S.rf
  have hl : lv_has ls 4 [(0, .ref (ad 4)), (1, .int (oI X)), (2, .int (nI ch))] := hl
  have hn40 : n ≤ 40 := hB.2.1
  refine lv_aload_n S.1 S.2.1 d_B_trackedAt_0 rfl (lv_at hl 0 rfl) ?_
  refine lv_iload_n S.1 S.2.1 d_B_trackedAt_1 rfl (lv_at hl 1 rfl) ?_
  refine lv_iload_n S.1 S.2.1 d_B_trackedAt_2 rfl (lv_at hl 2 rfl) ?_
  refine uVi (n := 2) (b := 4) (As := [.int (oI X), .int (nI ch)]) (rest := []) S hK hN hP hS (c_B_sourceOf hJ v π n hB (X) (fun p h => hX _ h) ch hch) ⟨hU, t2_158, t2_155, t1_5, by decide +kernel, by decide, by decide⟩ t2_156 t2_157 (by decide) xg_book rfl rfl rfl hl.1 rfl (Nat.le_of_ble_eq_true rfl) d_B_trackedAt_3 ⟨Nat.le_of_ble_eq_true rfl, Nat.le_of_ble_eq_true rfl⟩ (fun r u H locs hp hP hS => ?_)
  obtain ⟨rfl, rfl⟩ := hp
  rcases hX_1 : srcO v π ch (X) with _ | p_2
  · refine lv_istore_n (lv' := [(3, .int (-1)), (0, .ref (ad 4)), (1, .int (oI X)), (2, .int (nI ch))]) S.1 S.2.1 d_B_trackedAt_6 rfl hl (by decide) rfl (fun ls hl => ?_)
    refine lv_iload_n S.1 S.2.1 d_B_trackedAt_7 rfl (lv_at hl 0 rfl) ?_
    refine lv_iconst (v := (-1)) S.1 S.2.1 d_B_trackedAt_8 (by decide) ?_
    refine lv_icmp_ne (tgt := 16) S.1 S.2.1 d_B_trackedAt_9 (by decide) (fun c_3 => ?_) (fun c_3 => ?_)
    · exact absurd rfl c_3
    · refine lv_iconst (v := (-1)) S.1 S.2.1 d_B_trackedAt_12 (by decide) ?_
      refine lv_goto (tgt := 29) S.1 S.2.1 d_B_trackedAt_13 (by decide) ?_
      exact uIret S hr hlk (v, π) hP hS (by refine ⟨rfl, ?_⟩; simp only [trk, hX_1]) d_B_trackedAt_29
  · have hp_2 : p_2 < n := srcO_lt (fun p h => hX _ h) _ hX_1
    refine lv_istore_n (lv' := [(3, .int (nI p_2)), (0, .ref (ad 4)), (1, .int (oI X)), (2, .int (nI ch))]) S.1 S.2.1 d_B_trackedAt_6 rfl hl (by decide) rfl (fun ls hl => ?_)
    refine lv_iload_n S.1 S.2.1 d_B_trackedAt_7 rfl (lv_at hl 0 rfl) ?_
    refine lv_iconst (v := (-1)) S.1 S.2.1 d_B_trackedAt_8 (by decide) ?_
    refine lv_icmp_ne (tgt := 16) S.1 S.2.1 d_B_trackedAt_9 (by decide) (fun c_4 => ?_) (fun c_4 => ?_)
    · refine lv_aload_n S.1 S.2.1 d_B_trackedAt_16 rfl (lv_at hl 1 rfl) ?_
      refine ur_get (k := 4) (v := .ref (ad 5)) S hK hP (by decide) xg_book rfl (fun w h => hU w (in_B w h)) 0 (by decide) (hU _ t1_106) rfl d_B_trackedAt_17 ?_
      refine lv_iload_n S.1 S.2.1 d_B_trackedAt_20 rfl (lv_at hl 0 rfl) ?_
      refine ur_aald (k := 5) (q := ad (89 + π p_2)) (j := p_2) S hK hP (by decide) 2 xg_cues rfl rfl (by omega) (by decide) rfl d_B_trackedAt_21 ?_
      refine ur_getN (k := (89 + (π p_2))) (v := .ref (ad (7 + 2 * (π p_2)))) S hK hP (kb_C (hB.2.2 _ (by omega))) (xg_cue (hB.2.2 _ (by omega))) rfl (fun w h => hU w (in_C w h)) 0 (by decide) (hN _ t1_74) rfl d_B_trackedAt_22 ?_
      refine lv_iload_n S.1 S.2.1 d_B_trackedAt_25 rfl (lv_at hl 3 rfl) ?_
      refine uVi (n := 1) (b := (7 + 2 * (π p_2))) (As := [.int (nI ch)]) (rest := []) S hK hN hP hS (c_V_valueAt hJ v π (π p_2) ch (Nat.lt_succ_of_lt (hB.2.2 _ (by omega))) hch) ⟨hU, t2_162, t2_159, t1_2, by decide +kernel, by decide, by decide⟩ t2_160 t2_161 (kb_V (Nat.lt_succ_of_lt (hB.2.2 _ (by omega)))) (xg_row (Nat.lt_succ_of_lt (hB.2.2 _ (by omega)))) rfl rfl rfl hl.1 rfl (Nat.le_of_ble_eq_true rfl) d_B_trackedAt_26 ⟨Nat.le_of_ble_eq_true rfl, Nat.le_of_ble_eq_true rfl⟩ (fun r u H locs hp hP hS => ?_)
      obtain ⟨rfl, rfl⟩ := hp
      exact uIret S hr hlk (v, π) hP hS (by refine ⟨rfl, ?_⟩; simp only [trk, hX_1]) d_B_trackedAt_29
    · exact absurd c_4 (nI_nm1 (by omega))

set_option maxRecDepth 100000 in
set_option maxHeartbeats 4000000 in
theorem c_V_lackedOf {l : Launch} {D : va_G} {ca : Nat → ClassId} {ad : Nat → Nat} (hJ : uJ 165 ad) (v : Nat → Nat → Nat → Int32) (π : Nat → Nat) (M : Nat) (hM : M = 64) (j k : Nat) (hj : j < 41) (hk : k < 41) : uMi l y_V_lackedOf b_V_lackedOf 4 (some .int) 1 21 D clsAll (tysAll ca) 165 ad (xG ca ad) (v, π) [.ref (ad (7 + 2 * j)), .ref (ad (7 + 2 * k))] (fun r u => u = (v, π) ∧ r = lacks v j k M) := by
  refine uStart (by decide) (Nat.le_of_ble_eq_true rfl) ?_
  intro p e s m below meth c ls S hr hlk hK hN hP hl
  have hU : ∀ w ∈ uWS, w ∈ (Cond.code y_V_lackedOf b_V_lackedOf 4 (some .int) :: uWS) := fun w h => List.mem_cons_of_mem _ h
  have hS : va_S (uA 165 ad s.heap.size) s.heap s.heap [] := va_S.rf
  have hl : lv_has ls 4 [(0, .ref (ad (7 + 2 * j))), (1, .ref (ad (7 + 2 * k)))] := hl
  refine lv_iconst (v := 0) S.1 S.2.1 d_V_lackedOf_0 (by decide) ?_
  refine lv_istore_n (lv' := [(2, .int 0), (0, .ref (ad (7 + 2 * j))), (1, .ref (ad (7 + 2 * k)))]) S.1 S.2.1 d_V_lackedOf_1 rfl hl (by decide) rfl (fun ls hl => ?_)
  refine lv_iconst (v := 0) S.1 S.2.1 d_V_lackedOf_2 (by decide) ?_
  refine lv_istore_n (lv' := [(3, .int 0), (2, .int 0), (0, .ref (ad (7 + 2 * j))), (1, .ref (ad (7 + 2 * k)))]) S.1 S.2.1 d_V_lackedOf_3 rfl hl (by decide) rfl (fun ls hl => ?_)
  have L : ∀ i, i ≤ M → ∀ (H : Heap) (locs : List Loc) (ls : Array Slot), va_P D clsAll (uw 165 ad (xG ca ad (v, π))) H → va_S (uA 165 ad s.heap.size) s.heap H locs → lv_has ls 4 [(3, .int (nI i)), (2, .int (lacks v j k i)), (0, .ref (ad (7 + 2 * j))), (1, .ref (ad (7 + 2 * k)))] → uGi 1 21 D clsAll 165 ad (xG ca ad) (fun r u => u = (v, π) ∧ r = lacks v j k M) [.ref (ad (7 + 2 * j)), .ref (ad (7 + 2 * k))] p l e s m below meth c H locs 4 ls [] := by
    refine upTo M ?_ ?_
    · intro H locs ls hP hS hl
      refine lv_iload_n S.1 S.2.1 d_V_lackedOf_4 rfl (lv_at hl 0 rfl) ?_
      refine lv_bipush (v := 64) S.1 S.2.1 d_V_lackedOf_5 (by decide) ?_
      refine lv_icmp_ge (tgt := 35) S.1 S.2.1 d_V_lackedOf_7 (by decide) (fun c_h => ?_) (fun c_h => ?_)
      · refine lv_iload_n S.1 S.2.1 d_V_lackedOf_35 rfl (lv_at hl 1 rfl) ?_
        exact uIret S hr hlk (v, π) hP hS (⟨rfl, rfl⟩) d_V_lackedOf_36
      · exact absurd (by subst hM; exact nI_le (Nat.le_refl 64) (by decide)) c_h
    · intro i hi ih H locs ls hP hS hl
      refine lv_iload_n S.1 S.2.1 d_V_lackedOf_4 rfl (lv_at hl 0 rfl) ?_
      refine lv_bipush (v := 64) S.1 S.2.1 d_V_lackedOf_5 (by decide) ?_
      refine lv_icmp_ge (tgt := 35) S.1 S.2.1 d_V_lackedOf_7 (by decide) (fun c_h => ?_) (fun c_h => ?_)
      · exact absurd c_h (nI_ge (b := 64) (by omega) (by decide))
      · refine lv_aload_n S.1 S.2.1 d_V_lackedOf_10 rfl (lv_at hl 3 rfl) ?_
        refine lv_iload_n S.1 S.2.1 d_V_lackedOf_11 rfl (lv_at hl 0 rfl) ?_
        refine uVi (n := 1) (b := (7 + 2 * k)) (As := [.int (nI i)]) (rest := []) S hK hN hP hS (c_V_has hJ v π k i hk (by omega)) ⟨hU, t2_135, t2_132, t1_2, by decide +kernel, by decide, by decide⟩ t2_133 t2_134 (kb_V hk) (xg_row hk) rfl rfl rfl hl.1 rfl (Nat.le_of_ble_eq_true rfl) d_V_lackedOf_12 ⟨Nat.le_of_ble_eq_true rfl, Nat.le_of_ble_eq_true rfl⟩ (fun r u H locs hp hP hS => ?_)
        obtain ⟨rfl, rfl⟩ := hp
        refine lv_if_eq (tgt := 29) S.1 S.2.1 d_V_lackedOf_15 (by decide) (fun c_a => ?_) (fun c_a => ?_)
        · have c_a := pI_no c_a
          refine lv_iinc (v := nI (i + 1)) (lv' := [(3, .int (nI (i + 1))), (2, .int (lacks v j k i)), (0, .ref (ad (7 + 2 * j))), (1, .ref (ad (7 + 2 * k)))]) S.1 S.2.1 d_V_lackedOf_29 hl (k := 0) rfl (nI_1 i) (by decide) rfl (fun ls hl => ?_)
          refine lv_goto (tgt := 4) S.1 S.2.1 d_V_lackedOf_32 (by decide) ?_
          rw [show lacks v j k i = lacks v j k (i + 1) from by rw [lacks, if_neg (fun z => c_a z.1)]] at hl
          exact ih _ _ ls hP hS (lv_sub hl [0, 1, 2, 3] rfl)
        · have c_a := pI_yes c_a
          refine lv_aload_n S.1 S.2.1 d_V_lackedOf_18 rfl (lv_at hl 2 rfl) ?_
          refine lv_iload_n S.1 S.2.1 d_V_lackedOf_19 rfl (lv_at hl 0 rfl) ?_
          refine uVi (n := 1) (b := (7 + 2 * j)) (As := [.int (nI i)]) (rest := []) S hK hN hP hS (c_V_has hJ v π j i hj (by omega)) ⟨hU, t2_135, t2_132, t1_2, by decide +kernel, by decide, by decide⟩ t2_133 t2_134 (kb_V hj) (xg_row hj) rfl rfl rfl hl.1 rfl (Nat.le_of_ble_eq_true rfl) d_V_lackedOf_20 ⟨Nat.le_of_ble_eq_true rfl, Nat.le_of_ble_eq_true rfl⟩ (fun r u H locs hp hP hS => ?_)
          obtain ⟨rfl, rfl⟩ := hp
          refine lv_if_ne (tgt := 29) S.1 S.2.1 d_V_lackedOf_23 (by decide) (fun c_b => ?_) (fun c_b => ?_)
          · have c_b := pI_yes c_b
            refine lv_iinc (v := nI (i + 1)) (lv' := [(3, .int (nI (i + 1))), (2, .int (lacks v j k i)), (0, .ref (ad (7 + 2 * j))), (1, .ref (ad (7 + 2 * k)))]) S.1 S.2.1 d_V_lackedOf_29 hl (k := 0) rfl (nI_1 i) (by decide) rfl (fun ls hl => ?_)
            refine lv_goto (tgt := 4) S.1 S.2.1 d_V_lackedOf_32 (by decide) ?_
            rw [show lacks v j k i = lacks v j k (i + 1) from by rw [lacks, if_neg (fun z => c_b z.2)]] at hl
            exact ih _ _ ls hP hS (lv_sub hl [0, 1, 2, 3] rfl)
          · have c_b := pI_no c_b
            obtain ⟨x_1, ex_1⟩ : ∃ y : Int32, y = lacks v j k i + 1 := ⟨_, rfl⟩
            refine lv_iinc (v := x_1) (lv' := [(2, .int x_1), (3, .int (nI i)), (0, .ref (ad (7 + 2 * j))), (1, .ref (ad (7 + 2 * k)))]) S.1 S.2.1 d_V_lackedOf_26 hl (k := 1) rfl (by rw [ex_1]; rfl) (by decide) rfl (fun ls hl => ?_)
            refine lv_iinc (v := nI (i + 1)) (lv' := [(3, .int (nI (i + 1))), (2, .int x_1), (0, .ref (ad (7 + 2 * j))), (1, .ref (ad (7 + 2 * k)))]) S.1 S.2.1 d_V_lackedOf_29 hl (k := 1) rfl (nI_1 i) (by decide) rfl (fun ls hl => ?_)
            refine lv_goto (tgt := 4) S.1 S.2.1 d_V_lackedOf_32 (by decide) ?_
            rw [ex_1] at hl
            have hl := hl
            rw [show lacks v j k i + 1 = lacks v j k (i + 1) from by rw [lacks, if_pos ⟨c_a, Decidable.not_not.mp c_b⟩]] at hl
            exact ih _ _ ls hP hS (lv_sub hl [0, 1, 2, 3] rfl)
  exact L 0 (Nat.zero_le _) _ _ ls hP hS (lv_sub hl [0, 1, 2, 3] rfl)
