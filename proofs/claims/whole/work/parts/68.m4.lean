/-! The model: looks, sources, make, cue, merged, start, tell (printed by wip/gen/gen_m4.py) -/
set_option maxRecDepth 100000 in
set_option maxHeartbeats 4000000 in
theorem c_M_look {l : Launch} {D : va_G} {ca : Nat → ClassId} {ad : Nat → Nat} (hJ : uJ 22 ad) (w : Nat → Nat → Int32) (F : Nat) (hF : F = 40) (hv : mV w) (a b x : Int32) : uMi l y_M_look b_M_look 4 (some .int) 4 96 D clsAll (tysAll ca) 22 ad (mG ca ad) w [.ref (ad 0), .int a, .int b, .int x] (fun r u => mLkP w a b x F r u) := by
  refine uStart (by decide) (Nat.le_of_ble_eq_true rfl) ?_
  intro p e s m below meth c ls S hr hlk hK hN hP hl
  have hU : ∀ w ∈ uWS, w ∈ (Cond.code y_M_look b_M_look 4 (some .int) :: uWS) := fun w h => List.mem_cons_of_mem _ h
  have hS : va_S (uA 22 ad s.heap.size) s.heap s.heap [] := va_S.rf
  have hl : lv_has ls 4 [(0, .ref (ad 0)), (1, .int a), (2, .int b), (3, .int x)] := hl
  refine lv_aload_n S.1 S.2.1 d_M_look_0 rfl (lv_at hl 0 rfl) ?_
  refine lv_iload_n S.1 S.2.1 d_M_look_1 rfl (lv_at hl 1 rfl) ?_
  refine lv_iload_n S.1 S.2.1 d_M_look_2 rfl (lv_at hl 2 rfl) ?_
  refine uVi (n := 2) (b := 0) (As := [.int a, .int b]) (rest := []) S hK hN hP hS (c_M_has hJ w F hF a b) ⟨hU, t4_91, t4_88, t1_8, by decide +kernel, by decide, by decide⟩ t4_90 tp_29 (by decide) mg_obj rfl rfl rfl hl.1 rfl (Nat.le_of_ble_eq_true rfl) d_M_look_3 ⟨Nat.le_of_ble_eq_true rfl, Nat.le_of_ble_eq_true rfl⟩ (fun r u H locs hp hP hS => ?_)
  obtain ⟨hu, rfl⟩ := hp
  rw [hu] at hP
  refine lv_if_ne (tgt := 11) S.1 S.2.1 d_M_look_6 (by decide) (fun c_has => ?_) (fun c_has => ?_)
  · have c_has := pI_yes c_has
    rw [if_neg c_has] at hP
    refine lv_aload_n S.1 S.2.1 d_M_look_11 rfl (lv_at hl 0 rfl) ?_
    refine lv_iload_n S.1 S.2.1 d_M_look_12 rfl (lv_at hl 3 rfl) ?_
    refine uSi (n := 1) (As := [.int x]) (rest := [.ref (ad 0)]) S hK hN hP hS (c_M_isChannel hJ (up2 w 0 0 0) x) ⟨hU, t4_4, t4_2, t1_8, by decide +kernel, by decide, by decide⟩ t4_3 rfl hl.1 rfl (Nat.le_of_ble_eq_true rfl) d_M_look_13 ⟨Nat.le_of_ble_eq_true rfl, Nat.le_of_ble_eq_true rfl⟩ (fun r u H locs hp hP hS => ?_)
    obtain ⟨hu, rfl⟩ := hp
    rw [hu] at hP
    refine lv_if_eq (tgt := 23) S.1 S.2.1 d_M_look_16 (by decide) (fun c_a => ?_) (fun c_a => ?_)
    · have c_a := pI_no c_a
      refine lv_iconst (v := 2) S.1 S.2.1 d_M_look_23 (by decide) ?_
      refine ur_put (k := 0) (v := .int 2) (g' := mG ca ad (up2 (up2 w 0 0 0) 0 0 2)) S hK hP (uD _ hJ) hS (by decide) mg_obj rfl (fun w h => hU w (in_M w h)) ty_M tyk_M nm_M 0 (by decide) (hU _ t3_160) rfl rfl rfl (Nat.le_of_ble_eq_true rfl) ms_thr d_M_look_24 (fun H locs hP hS => ?_)
      refine lv_aload_n S.1 S.2.1 d_M_look_27 rfl (lv_at hl 0 rfl) ?_
      refine ur_get (k := 0) (v := .int ((up2 (up2 w 0 0 0) 0 0 2) 0 0)) S hK hP (by decide) mg_obj rfl (fun w h => hU w (in_M w h)) 0 (by decide) (hU _ t3_160) rfl d_M_look_28 ?_
      rw [up2_s]
      refine lv_if_le (tgt := 38) S.1 S.2.1 d_M_look_31 (by decide) (fun c_1 => ?_) (fun c_1 => ?_)
      · exact absurd c_1 (by decide)
      · refine lv_iconst (v := 0) S.1 S.2.1 d_M_look_34 (by decide) ?_
        refine lv_goto (tgt := 45) S.1 S.2.1 d_M_look_35 (by decide) ?_
        exact uIret S hr hlk (up2 (up2 w 0 0 0) 0 0 2) hP hS (by unfold mLkP; rw [if_neg c_has, if_neg c_a]; exact ⟨rfl, rfl⟩) d_M_look_45
    · have c_a := pI_yes c_a
      obtain ⟨ch, hch, ech⟩ := isCh_nat c_a
      subst ech
      refine lv_iconst (v := 0) S.1 S.2.1 d_M_look_19 (by decide) ?_
      refine lv_goto (tgt := 24) S.1 S.2.1 d_M_look_20 (by decide) ?_
      refine ur_put (k := 0) (v := .int 0) (g' := mG ca ad (up2 (up2 w 0 0 0) 0 0 0)) S hK hP (uD _ hJ) hS (by decide) mg_obj rfl (fun w h => hU w (in_M w h)) ty_M tyk_M nm_M 0 (by decide) (hU _ t3_160) rfl rfl rfl (Nat.le_of_ble_eq_true rfl) ms_thr d_M_look_24 (fun H locs hP hS => ?_)
      refine lv_aload_n S.1 S.2.1 d_M_look_27 rfl (lv_at hl 0 rfl) ?_
      refine ur_get (k := 0) (v := .int ((up2 (up2 w 0 0 0) 0 0 0) 0 0)) S hK hP (by decide) mg_obj rfl (fun w h => hU w (in_M w h)) 0 (by decide) (hU _ t3_160) rfl d_M_look_28 ?_
      rw [up2_s]
      refine lv_if_le (tgt := 38) S.1 S.2.1 d_M_look_31 (by decide) (fun c_2 => ?_) (fun c_2 => ?_)
      · refine lv_aload_n S.1 S.2.1 d_M_look_38 rfl (lv_at hl 0 rfl) ?_
        refine lv_iload_n S.1 S.2.1 d_M_look_39 rfl (lv_at hl 1 rfl) ?_
        refine lv_iload_n S.1 S.2.1 d_M_look_40 rfl (lv_at hl 2 rfl) ?_
        refine lv_iload_n S.1 S.2.1 d_M_look_41 rfl (lv_at hl 3 rfl) ?_
        refine uVi (n := 3) (b := 0) (As := [.int a, .int b, .int (nI ch)]) (rest := []) S hK hN hP hS (c_M_lookOf hJ (up2 (up2 w 0 0 0) 0 0 0) F hF (mV_up (by decide) (mV_up (by decide) hv)) a b ch hch) ⟨hU, t4_118, t4_115, t1_8, by decide +kernel, by decide, by decide⟩ t4_117 tp_30 (by decide) mg_obj rfl rfl rfl hl.1 rfl (Nat.le_of_ble_eq_true rfl) d_M_look_42 ⟨Nat.le_of_ble_eq_true rfl, Nat.le_of_ble_eq_true rfl⟩ (fun r u H locs hp hP hS => ?_)
        obtain ⟨hu, rfl⟩ := hp
        rw [hu] at hP
        exact uIret S hr hlk (up2 (up2 w 0 0 0) 0 0 0) hP hS (by unfold mLkP; rw [if_neg c_has, if_pos c_a, nI_clamp (by omega)]; exact ⟨rfl, rfl⟩) d_M_look_45
      · exact absurd (by decide) c_2
  · have c_has := pI_no c_has
    rw [if_pos (Decidable.not_not.mp c_has)] at hP
    refine lv_iconst (v := 0) S.1 S.2.1 d_M_look_9 (by decide) ?_
    exact uIret S hr hlk (up2 w 0 0 1) hP hS (by unfold mLkP; rw [if_pos (Decidable.not_not.mp c_has)]; exact ⟨rfl, rfl⟩) d_M_look_10

set_option maxRecDepth 100000 in
set_option maxHeartbeats 4000000 in
theorem c_M_source {l : Launch} {D : va_G} {ca : Nat → ClassId} {ad : Nat → Nat} (hJ : uJ 22 ad) (w : Nat → Nat → Int32) (F : Nat) (hF : F = 40) (a b x : Int32) : uMi l y_M_source b_M_source 5 (some .int) 2 48 D clsAll (tysAll ca) 22 ad (mG ca ad) w [.ref (ad 0), .int a, .int b, .int x] (fun r u => mScP w a b x F r u) := by
  refine uStart (by decide) (Nat.le_of_ble_eq_true rfl) ?_
  intro p e s m below meth c ls S hr hlk hK hN hP hl
  have hU : ∀ w ∈ uWS, w ∈ (Cond.code y_M_source b_M_source 5 (some .int) :: uWS) := fun w h => List.mem_cons_of_mem _ h
  have hS : va_S (uA 22 ad s.heap.size) s.heap s.heap [] := va_S.rf
  have hl : lv_has ls 5 [(0, .ref (ad 0)), (1, .int a), (2, .int b), (3, .int x)] := hl
  refine lv_aload_n S.1 S.2.1 d_M_source_0 rfl (lv_at hl 0 rfl) ?_
  refine lv_iload_n S.1 S.2.1 d_M_source_1 rfl (lv_at hl 1 rfl) ?_
  refine lv_iload_n S.1 S.2.1 d_M_source_2 rfl (lv_at hl 2 rfl) ?_
  refine uVi (n := 2) (b := 0) (As := [.int a, .int b]) (rest := []) S hK hN hP hS (c_M_has hJ w F hF a b) ⟨hU, t4_91, t4_88, t1_8, by decide +kernel, by decide, by decide⟩ t4_90 tp_29 (by decide) mg_obj rfl rfl rfl hl.1 rfl (Nat.le_of_ble_eq_true rfl) d_M_source_3 ⟨Nat.le_of_ble_eq_true rfl, Nat.le_of_ble_eq_true rfl⟩ (fun r u H locs hp hP hS => ?_)
  obtain ⟨hu, rfl⟩ := hp
  rw [hu] at hP
  refine lv_if_ne (tgt := 11) S.1 S.2.1 d_M_source_6 (by decide) (fun c_has => ?_) (fun c_has => ?_)
  · have c_has := pI_yes c_has
    rw [if_neg c_has] at hP
    refine lv_aload_n S.1 S.2.1 d_M_source_11 rfl (lv_at hl 0 rfl) ?_
    refine lv_iload_n S.1 S.2.1 d_M_source_12 rfl (lv_at hl 3 rfl) ?_
    refine uSi (n := 1) (As := [.int x]) (rest := [.ref (ad 0)]) S hK hN hP hS (c_M_isChannel hJ (up2 w 0 0 0) x) ⟨hU, t4_4, t4_2, t1_8, by decide +kernel, by decide, by decide⟩ t4_3 rfl hl.1 rfl (Nat.le_of_ble_eq_true rfl) d_M_source_13 ⟨Nat.le_of_ble_eq_true rfl, Nat.le_of_ble_eq_true rfl⟩ (fun r u H locs hp hP hS => ?_)
    obtain ⟨hu, rfl⟩ := hp
    rw [hu] at hP
    refine lv_if_eq (tgt := 23) S.1 S.2.1 d_M_source_16 (by decide) (fun c_a => ?_) (fun c_a => ?_)
    · have c_a := pI_no c_a
      refine lv_iconst (v := 2) S.1 S.2.1 d_M_source_23 (by decide) ?_
      refine ur_put (k := 0) (v := .int 2) (g' := mG ca ad (up2 (up2 w 0 0 0) 0 0 2)) S hK hP (uD _ hJ) hS (by decide) mg_obj rfl (fun w h => hU w (in_M w h)) ty_M tyk_M nm_M 0 (by decide) (hU _ t3_160) rfl rfl rfl (Nat.le_of_ble_eq_true rfl) ms_thr d_M_source_24 (fun H locs hP hS => ?_)
      refine lv_aload_n S.1 S.2.1 d_M_source_27 rfl (lv_at hl 0 rfl) ?_
      refine ur_get (k := 0) (v := .int ((up2 (up2 w 0 0 0) 0 0 2) 0 0)) S hK hP (by decide) mg_obj rfl (fun w h => hU w (in_M w h)) 0 (by decide) (hU _ t3_160) rfl d_M_source_28 ?_
      rw [up2_s]
      refine lv_if_le (tgt := 36) S.1 S.2.1 d_M_source_31 (by decide) (fun c_1 => ?_) (fun c_1 => ?_)
      · exact absurd c_1 (by decide)
      · refine lv_iconst (v := 0) S.1 S.2.1 d_M_source_34 (by decide) ?_
        exact uIret S hr hlk (up2 (up2 w 0 0 0) 0 0 2) hP hS (by unfold mScP; rw [if_neg c_has, if_neg c_a]; exact ⟨rfl, rfl⟩) d_M_source_35
    · have c_a := pI_yes c_a
      obtain ⟨ch, hch, ech⟩ := isCh_nat c_a
      subst ech
      refine lv_iconst (v := 0) S.1 S.2.1 d_M_source_19 (by decide) ?_
      refine lv_goto (tgt := 24) S.1 S.2.1 d_M_source_20 (by decide) ?_
      refine ur_put (k := 0) (v := .int 0) (g' := mG ca ad (up2 (up2 w 0 0 0) 0 0 0)) S hK hP (uD _ hJ) hS (by decide) mg_obj rfl (fun w h => hU w (in_M w h)) ty_M tyk_M nm_M 0 (by decide) (hU _ t3_160) rfl rfl rfl (Nat.le_of_ble_eq_true rfl) ms_thr d_M_source_24 (fun H locs hP hS => ?_)
      refine lv_aload_n S.1 S.2.1 d_M_source_27 rfl (lv_at hl 0 rfl) ?_
      refine ur_get (k := 0) (v := .int ((up2 (up2 w 0 0 0) 0 0 0) 0 0)) S hK hP (by decide) mg_obj rfl (fun w h => hU w (in_M w h)) 0 (by decide) (hU _ t3_160) rfl d_M_source_28 ?_
      rw [up2_s]
      refine lv_if_le (tgt := 36) S.1 S.2.1 d_M_source_31 (by decide) (fun c_2 => ?_) (fun c_2 => ?_)
      · refine lv_aload_n S.1 S.2.1 d_M_source_36 rfl (lv_at hl 0 rfl) ?_
        refine lv_iload_n S.1 S.2.1 d_M_source_37 rfl (lv_at hl 1 rfl) ?_
        refine lv_iload_n S.1 S.2.1 d_M_source_38 rfl (lv_at hl 2 rfl) ?_
        refine lv_iload_n S.1 S.2.1 d_M_source_39 rfl (lv_at hl 3 rfl) ?_
        refine uVi (n := 3) (b := 0) (As := [.int a, .int b, .int (nI ch)]) (rest := []) S hK hN hP hS (c_M_sourceOf hJ (up2 (up2 w 0 0 0) 0 0 0) F hF a b ch hch) ⟨hU, t4_67, t4_64, t1_8, by decide +kernel, by decide, by decide⟩ t4_66 tp_24 (by decide) mg_obj rfl rfl rfl hl.1 rfl (Nat.le_of_ble_eq_true rfl) d_M_source_40 ⟨Nat.le_of_ble_eq_true rfl, Nat.le_of_ble_eq_true rfl⟩ (fun r u H locs hp hP hS => ?_)
        obtain ⟨hu, rfl⟩ := hp
        rw [hu] at hP
        rcases hX_3 : mSrc (up2 (up2 w 0 0 0) 0 0 0) a b ch F with _ | p_4
        · refine lv_istore (lv' := [(4, .int (-1)), (0, .ref (ad 0)), (1, .int a), (2, .int b), (3, .int (nI ch))]) S.1 S.2.1 d_M_source_43 hl (by decide) rfl (fun ls hl => ?_)
          refine lv_iload S.1 S.2.1 d_M_source_45 (lv_at hl 0 rfl) ?_
          refine lv_if_ge (tgt := 54) S.1 S.2.1 d_M_source_47 (by decide) (fun c_5 => ?_) (fun c_5 => ?_)
          · exact absurd c_5 (by decide)
          · refine lv_iconst (v := (-1)) S.1 S.2.1 d_M_source_50 (by decide) ?_
            refine lv_goto (tgt := 61) S.1 S.2.1 d_M_source_51 (by decide) ?_
            exact uIret S hr hlk (up2 (up2 w 0 0 0) 0 0 0) hP hS (by unfold mScP; rw [if_neg c_has, if_pos c_a, nI_clamp (by omega), hX_3]; exact ⟨rfl, rfl⟩) d_M_source_61
        · have hp_4 := mSrc_lt _ hX_3
          refine lv_istore (lv' := [(4, .int (nI p_4)), (0, .ref (ad 0)), (1, .int a), (2, .int b), (3, .int (nI ch))]) S.1 S.2.1 d_M_source_43 hl (by decide) rfl (fun ls hl => ?_)
          refine lv_iload S.1 S.2.1 d_M_source_45 (lv_at hl 0 rfl) ?_
          refine lv_if_ge (tgt := 54) S.1 S.2.1 d_M_source_47 (by decide) (fun c_6 => ?_) (fun c_6 => ?_)
          · refine lv_aload_n S.1 S.2.1 d_M_source_54 rfl (lv_at hl 1 rfl) ?_
            refine ur_get (k := 0) (v := .ref (ad 5)) S hK hP (by decide) mg_obj rfl (fun w h => hU w (in_M w h)) 5 (by decide) (hU _ t3_165) rfl d_M_source_55 ?_
            refine lv_iload S.1 S.2.1 d_M_source_58 (lv_at hl 0 rfl) ?_
            refine ur_iald (k := 5) (n := 40) (f := ((up2 (up2 w 0 0 0) 0 0 0) 5)) (j := p_4) S hK hP (by decide) 0 (mg_arr 5 (by decide)) rfl rfl (by omega) (by decide) d_M_source_60 ?_
            exact uIret S hr hlk (up2 (up2 w 0 0 0) 0 0 0) hP hS (by unfold mScP; rw [if_neg c_has, if_pos c_a, nI_clamp (by omega), hX_3]; exact ⟨rfl, rfl⟩) d_M_source_61
          · exact absurd (nI_pos' (by omega)) c_6
      · exact absurd (by decide) c_2
  · have c_has := pI_no c_has
    rw [if_pos (Decidable.not_not.mp c_has)] at hP
    refine lv_iconst (v := 0) S.1 S.2.1 d_M_source_9 (by decide) ?_
    exact uIret S hr hlk (up2 w 0 0 1) hP hS (by unfold mScP; rw [if_pos (Decidable.not_not.mp c_has)]; exact ⟨rfl, rfl⟩) d_M_source_10

set_option maxRecDepth 100000 in
set_option maxHeartbeats 4000000 in
theorem c_M_make {l : Launch} {D : va_G} {ca : Nat → ClassId} {ad : Nat → Nat} (hJ : uJ 22 ad) (w : Nat → Nat → Int32) (M : Nat) (hM : M = 64) (a b : Int32) (s0 : Nat) (hs0 : s0 < 40) (hfr : w 4 s0 < 0) (hbs : ∀ j, j < s0 → ¬ w 4 j < 0) : uMi l y_M_make b_M_make 5 (some .int) 1 23 D clsAll (tysAll ca) 22 ad (mG ca ad) w [.ref (ad 0), .int a, .int b] (fun r u => u = mMk w a b s0 M ∧ r = nI s0) := by
  refine uStart (by decide) (Nat.le_of_ble_eq_true rfl) ?_
  intro p e s m below meth c ls S hr hlk hK hN hP hl
  have hU : ∀ w ∈ uWS, w ∈ (Cond.code y_M_make b_M_make 5 (some .int) :: uWS) := fun w h => List.mem_cons_of_mem _ h
  have hS : va_S (uA 22 ad s.heap.size) s.heap s.heap [] := va_S.rf
  have hl : lv_has ls 5 [(0, .ref (ad 0)), (1, .int a), (2, .int b)] := hl
  refine lv_iconst (v := 0) S.1 S.2.1 d_M_make_0 (by decide) ?_
  refine lv_istore_n (lv' := [(3, .int 0), (0, .ref (ad 0)), (1, .int a), (2, .int b)]) S.1 S.2.1 d_M_make_1 rfl hl (by decide) rfl (fun ls hl => ?_)
  have L : ∀ i, i ≤ s0 → ∀ (H : Heap) (locs : List Loc) (ls : Array Slot), va_P D clsAll (uw 22 ad (mG ca ad w)) H → va_S (uA 22 ad s.heap.size) s.heap H locs → lv_has ls 5 [(3, .int (nI i)), (0, .ref (ad 0)), (1, .int a), (2, .int b)] → uGi 1 23 D clsAll 22 ad (mG ca ad) (fun r u => u = mMk w a b s0 M ∧ r = nI s0) [.ref (ad 0), .int a, .int b] p l e s m below meth c H locs 2 ls [] := by
    refine upTo s0 ?_ ?_
    · intro H locs ls hP hS hl
      refine lv_aload_n S.1 S.2.1 d_M_make_2 rfl (lv_at hl 1 rfl) ?_
      refine ur_get (k := 0) (v := .ref (ad 4)) S hK hP (by decide) mg_obj rfl (fun w h => hU w (in_M w h)) 4 (by decide) (hU _ t3_164) rfl d_M_make_3 ?_
      refine lv_iload_n S.1 S.2.1 d_M_make_6 rfl (lv_at hl 0 rfl) ?_
      refine ur_iald (k := 4) (n := 40) (f := (w 4)) (j := s0) S hK hP (by decide) 0 (mg_arr 4 (by decide)) rfl rfl (by omega) (by decide) d_M_make_7 ?_
      refine lv_if_lt (tgt := 17) S.1 S.2.1 d_M_make_8 (by decide) (fun c_f => ?_) (fun c_f => ?_)
      · refine lv_aload_n S.1 S.2.1 d_M_make_17 rfl (lv_at hl 1 rfl) ?_
        refine ur_get (k := 0) (v := .ref (ad 4)) S hK hP (by decide) mg_obj rfl (fun w h => hU w (in_M w h)) 4 (by decide) (hU _ t3_164) rfl d_M_make_18 ?_
        refine lv_iload_n S.1 S.2.1 d_M_make_21 rfl (lv_at hl 0 rfl) ?_
        refine lv_iload_n S.1 S.2.1 d_M_make_22 rfl (lv_at hl 2 rfl) ?_
        refine ur_iast (k := 4) (n := 40) (f := (w 4)) (j := s0) (g' := mG ca ad (up2 w 4 s0 a)) S hK hP (uD _ hJ) hS (by decide) 0 (mg_arr 4 (by decide)) rfl rfl (by omega) (by decide) (ms_arr 4 (by decide) (by decide) (by decide)) d_M_make_23 (fun H locs hP hS => ?_)
        refine lv_aload_n S.1 S.2.1 d_M_make_24 rfl (lv_at hl 1 rfl) ?_
        refine ur_get (k := 0) (v := .ref (ad 5)) S hK hP (by decide) mg_obj rfl (fun w h => hU w (in_M w h)) 5 (by decide) (hU _ t3_165) rfl d_M_make_25 ?_
        refine lv_iload_n S.1 S.2.1 d_M_make_28 rfl (lv_at hl 0 rfl) ?_
        refine lv_iload_n S.1 S.2.1 d_M_make_29 rfl (lv_at hl 3 rfl) ?_
        refine ur_iast (k := 5) (n := 40) (f := ((up2 w 4 s0 a) 5)) (j := s0) (g' := mG ca ad (up2 (up2 w 4 s0 a) 5 s0 b)) S hK hP (uD _ hJ) hS (by decide) 0 (mg_arr 5 (by decide)) rfl rfl (by omega) (by decide) (ms_arr 5 (by decide) (by decide) (by decide)) d_M_make_30 (fun H locs hP hS => ?_)
        refine lv_aload_n S.1 S.2.1 d_M_make_31 rfl (lv_at hl 1 rfl) ?_
        refine ur_get (k := 0) (v := .ref (ad 6)) S hK hP (by decide) mg_obj rfl (fun w h => hU w (in_M w h)) 6 (by decide) (hU _ t3_166) rfl d_M_make_32 ?_
        refine lv_iload_n S.1 S.2.1 d_M_make_35 rfl (lv_at hl 0 rfl) ?_
        refine lv_iconst (v := 0) S.1 S.2.1 d_M_make_36 (by decide) ?_
        refine ur_iast (k := 6) (n := 40) (f := ((up2 (up2 w 4 s0 a) 5 s0 b) 6)) (j := s0) (g' := mG ca ad (up2 (up2 (up2 w 4 s0 a) 5 s0 b) 6 s0 0)) S hK hP (uD _ hJ) hS (by decide) 0 (mg_arr 6 (by decide)) rfl rfl (by omega) (by decide) (ms_arr 6 (by decide) (by decide) (by decide)) d_M_make_37 (fun H locs hP hS => ?_)
        refine lv_aload_n S.1 S.2.1 d_M_make_38 rfl (lv_at hl 1 rfl) ?_
        refine ur_get (k := 0) (v := .ref (ad 7)) S hK hP (by decide) mg_obj rfl (fun w h => hU w (in_M w h)) 7 (by decide) (hU _ t3_167) rfl d_M_make_39 ?_
        refine lv_iload_n S.1 S.2.1 d_M_make_42 rfl (lv_at hl 0 rfl) ?_
        refine lv_iconst (v := 0) S.1 S.2.1 d_M_make_43 (by decide) ?_
        refine ur_iast (k := 7) (n := 40) (f := ((up2 (up2 (up2 w 4 s0 a) 5 s0 b) 6 s0 0) 7)) (j := s0) (g' := mG ca ad (up2 (up2 (up2 (up2 w 4 s0 a) 5 s0 b) 6 s0 0) 7 s0 0)) S hK hP (uD _ hJ) hS (by decide) 0 (mg_arr 7 (by decide)) rfl rfl (by omega) (by decide) (ms_arr 7 (by decide) (by decide) (by decide)) d_M_make_44 (fun H locs hP hS => ?_)
        refine lv_aload_n S.1 S.2.1 d_M_make_45 rfl (lv_at hl 1 rfl) ?_
        refine ur_get (k := 0) (v := .ref (ad 8)) S hK hP (by decide) mg_obj rfl (fun w h => hU w (in_M w h)) 8 (by decide) (hU _ t3_168) rfl d_M_make_46 ?_
        refine lv_iload_n S.1 S.2.1 d_M_make_49 rfl (lv_at hl 0 rfl) ?_
        refine lv_iconst (v := 0) S.1 S.2.1 d_M_make_50 (by decide) ?_
        refine ur_iast (k := 8) (n := 40) (f := ((up2 (up2 (up2 (up2 w 4 s0 a) 5 s0 b) 6 s0 0) 7 s0 0) 8)) (j := s0) (g' := mG ca ad (up2 (up2 (up2 (up2 (up2 w 4 s0 a) 5 s0 b) 6 s0 0) 7 s0 0) 8 s0 0)) S hK hP (uD _ hJ) hS (by decide) 0 (mg_arr 8 (by decide)) rfl rfl (by omega) (by decide) (ms_arr 8 (by decide) (by decide) (by decide)) d_M_make_51 (fun H locs hP hS => ?_)
        refine lv_aload_n S.1 S.2.1 d_M_make_52 rfl (lv_at hl 1 rfl) ?_
        refine ur_get (k := 0) (v := .ref (ad 9)) S hK hP (by decide) mg_obj rfl (fun w h => hU w (in_M w h)) 9 (by decide) (hU _ t3_169) rfl d_M_make_53 ?_
        refine lv_iload_n S.1 S.2.1 d_M_make_56 rfl (lv_at hl 0 rfl) ?_
        refine lv_iconst (v := (-1)) S.1 S.2.1 d_M_make_57 (by decide) ?_
        refine ur_iast (k := 9) (n := 40) (f := ((up2 (up2 (up2 (up2 (up2 w 4 s0 a) 5 s0 b) 6 s0 0) 7 s0 0) 8 s0 0) 9)) (j := s0) (g' := mG ca ad (up2 (up2 (up2 (up2 (up2 (up2 w 4 s0 a) 5 s0 b) 6 s0 0) 7 s0 0) 8 s0 0) 9 s0 (-1))) S hK hP (uD _ hJ) hS (by decide) 0 (mg_arr 9 (by decide)) rfl rfl (by omega) (by decide) (ms_arr 9 (by decide) (by decide) (by decide)) d_M_make_58 (fun H locs hP hS => ?_)
        refine lv_iconst (v := 0) S.1 S.2.1 d_M_make_59 (by decide) ?_
        refine lv_istore (lv' := [(4, .int 0), (3, .int (nI s0)), (0, .ref (ad 0)), (1, .int a), (2, .int b)]) S.1 S.2.1 d_M_make_60 hl (by decide) rfl (fun ls hl => ?_)
        have L2 : ∀ i, i ≤ M → ∀ (H : Heap) (locs : List Loc) (ls : Array Slot), va_P D clsAll (uw 22 ad (mG ca ad (mMk w a b s0 i))) H → va_S (uA 22 ad s.heap.size) s.heap H locs → lv_has ls 5 [(4, .int (nI i)), (3, .int (nI s0)), (0, .ref (ad 0)), (1, .int a), (2, .int b)] → uGi 1 23 D clsAll 22 ad (mG ca ad) (fun r u => u = mMk w a b s0 M ∧ r = nI s0) [.ref (ad 0), .int a, .int b] p l e s m below meth c H locs 62 ls [] := by
          refine upTo M ?_ ?_
          · intro H locs ls hP hS hl
            refine lv_iload S.1 S.2.1 d_M_make_62 (lv_at hl 0 rfl) ?_
            refine lv_bipush (v := 64) S.1 S.2.1 d_M_make_64 (by decide) ?_
            refine lv_icmp_ge (tgt := 83) S.1 S.2.1 d_M_make_66 (by decide) (fun c_h => ?_) (fun c_h => ?_)
            · refine lv_iload_n S.1 S.2.1 d_M_make_83 rfl (lv_at hl 1 rfl) ?_
              exact uIret S hr hlk (mMk w a b s0 M) hP hS (⟨rfl, rfl⟩) d_M_make_84
            · exact absurd (by subst hM; exact nI_le (Nat.le_refl 64) (by decide)) c_h
          · intro i hi ih H locs ls hP hS hl
            refine lv_iload S.1 S.2.1 d_M_make_62 (lv_at hl 0 rfl) ?_
            refine lv_bipush (v := 64) S.1 S.2.1 d_M_make_64 (by decide) ?_
            refine lv_icmp_ge (tgt := 83) S.1 S.2.1 d_M_make_66 (by decide) (fun c_h => ?_) (fun c_h => ?_)
            · exact absurd c_h (nI_ge (b := 64) (by omega) (by decide))
            · refine lv_aload_n S.1 S.2.1 d_M_make_69 rfl (lv_at hl 2 rfl) ?_
              refine lv_iload_n S.1 S.2.1 d_M_make_70 rfl (lv_at hl 1 rfl) ?_
              refine lv_iload S.1 S.2.1 d_M_make_71 (lv_at hl 0 rfl) ?_
              refine lv_iconst (v := (-1)) S.1 S.2.1 d_M_make_73 (by decide) ?_
              refine uVv (n := 3) (b := 0) (As := [.int (nI s0), .int (nI i), .int (-1)]) (rest := []) S hK hN hP hS (c_M_put hJ (mMk w a b s0 i) s0 i hs0 (by omega) (-1)) ⟨hU, t4_79, t4_76, t1_8, by decide +kernel, by decide, by decide⟩ t4_78 tp_27 (by decide) mg_obj rfl rfl rfl hl.1 rfl (Nat.le_of_ble_eq_true rfl) d_M_make_74 ⟨Nat.le_of_ble_eq_true rfl, Nat.le_of_ble_eq_true rfl⟩ (fun u H locs hp hP hS => ?_)
              rw [hp] at hP
              refine lv_iinc (v := nI (i + 1)) (lv' := [(4, .int (nI (i + 1))), (3, .int (nI s0)), (0, .ref (ad 0)), (1, .int a), (2, .int b)]) S.1 S.2.1 d_M_make_77 hl (k := 0) rfl (nI_1 i) (by decide) rfl (fun ls hl => ?_)
              refine lv_goto (tgt := 62) S.1 S.2.1 d_M_make_80 (by decide) ?_
              exact ih _ _ ls (by rw [mMk]; exact hP) hS (lv_sub hl [0, 1, 2, 3, 4] rfl)
        exact L2 0 (Nat.zero_le _) _ _ ls hP hS (lv_sub hl [0, 1, 2, 3, 4] rfl)
      · exact absurd hfr c_f
    · intro i hi ih H locs ls hP hS hl
      refine lv_aload_n S.1 S.2.1 d_M_make_2 rfl (lv_at hl 1 rfl) ?_
      refine ur_get (k := 0) (v := .ref (ad 4)) S hK hP (by decide) mg_obj rfl (fun w h => hU w (in_M w h)) 4 (by decide) (hU _ t3_164) rfl d_M_make_3 ?_
      refine lv_iload_n S.1 S.2.1 d_M_make_6 rfl (lv_at hl 0 rfl) ?_
      refine ur_iald (k := 4) (n := 40) (f := (w 4)) (j := i) S hK hP (by decide) 0 (mg_arr 4 (by decide)) rfl rfl (by omega) (by decide) d_M_make_7 ?_
      refine lv_if_lt (tgt := 17) S.1 S.2.1 d_M_make_8 (by decide) (fun c_f => ?_) (fun c_f => ?_)
      · exact absurd c_f (hbs i hi)
      · refine lv_iinc (v := nI (i + 1)) (lv' := [(3, .int (nI (i + 1))), (0, .ref (ad 0)), (1, .int a), (2, .int b)]) S.1 S.2.1 d_M_make_11 hl (k := 0) rfl (nI_1 i) (by decide) rfl (fun ls hl => ?_)
        refine lv_goto (tgt := 2) S.1 S.2.1 d_M_make_14 (by decide) ?_
        exact ih _ _ ls hP hS (lv_sub hl [0, 1, 2, 3] rfl)
  exact L 0 (Nat.zero_le _) _ _ ls hP hS (lv_sub hl [0, 1, 2, 3] rfl)
