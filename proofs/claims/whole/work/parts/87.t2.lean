/-! The desk: look, source, cue, go, out, playback (printed by wip/gen/gen_t2.py) -/
set_option maxRecDepth 100000 in
set_option maxHeartbeats 4000000 in
theorem c_D_look {l : Launch} (hlf : l.flags = pinnedFlags ++ [noTraceFlag]) {D : va_G} {ca : Nat → ClassId} {ad : Nat → Nat} (hJ : uJ 165 ad) (v : Nat → Nat → Nat → Int32) (π : Nat → Nat) (n : Nat) (hB : xBk v π n) (a b x : Int32) : tMi l y_D_look b_D_look 5 (some .int) 7 105 2 12 D clsAll (tysAll ca) 165 ad (xG ca ad) (v, π) [.ref (ad 0), .int a, .int b, .int x] (fun r u => u = (v, π) ∧ ∃ q, fndO v π n a b = some q ∧ isCh x ∧ r = vLev v (trk v π x.toNatClampNeg (some q)) x.toNatClampNeg) (fun X u => (u = (v, π) ∧ fndO v π n a b = none ∧ X = tNS) ∨ (u = (v, π) ∧ (∃ q, fndO v π n a b = some q) ∧ ¬ isCh x ∧ X = tIO)) := by
  refine tStart (by decide) (Nat.le_of_ble_eq_true rfl) ?_
  intro p e s m below meth c ls S hr hlk hK hN hP hTK hx0 hl
  have hP0 := hP
  have hU : ∀ w ∈ uWS, w ∈ (Cond.code y_D_look b_D_look 5 (some .int) :: uWS) := fun w h => List.mem_cons_of_mem _ h
  have hS : va_S (uA 165 ad s.heap.size) s.heap s.heap [] := va_S.rf
  have hl : lv_has ls 5 [(0, .ref (ad 0)), (1, .int a), (2, .int b), (3, .int x)] := hl
  have hn40 : n ≤ 40 := hB.2.1
  refine lv_aload_n S.1 S.2.1 d_D_look_0 rfl (lv_at hl 0 rfl) ?_
  refine lv_iload_n S.1 S.2.1 d_D_look_1 rfl (lv_at hl 1 rfl) ?_
  refine lv_iload_n S.1 S.2.1 d_D_look_2 rfl (lv_at hl 2 rfl) ?_
  refine tVi (n := 2) (b := 0) (As := [.int a, .int b]) (rest := []) S hK hN hTK hP0 hP hS (c_D_placeOrThrow hlf hJ v π  n hB a b) ⟨hU, t2_198, t2_195, t1_1, by decide +kernel, by decide, by decide⟩ t2_197 tp_6 (by decide) xg_desk rfl rfl rfl hl.1 rfl (Nat.le_of_ble_eq_true rfl) d_D_look_3 (by decide) (by decide) (fun r u H locs hp hP hS => ?_) (fun xa X u cell H locs hp hP hS h1 h2 h3 => tLeave hx0 hlk (by decide) (by decide) hP hS (by obtain ⟨rfl, hf, rfl⟩ := hp; exact Or.inl ⟨rfl, hf, rfl⟩) h1 h2 h3)
  obtain ⟨rfl, q, hq0, rfl⟩ := hp
  have hq := fndO_lt _ hq0
  refine lv_istore (lv' := [(4, .int (nI q)), (0, .ref (ad 0)), (1, .int a), (2, .int b), (3, .int x)]) S.1 S.2.1 d_D_look_6 hl (by decide) rfl (fun ls hl => ?_)
  refine lv_iload_n S.1 S.2.1 d_D_look_8 rfl (lv_at hl 4 rfl) ?_
  refine uSi (n := 1) (As := [.int x]) (rest := []) S hK hN hP hS (c_D_isChannel hJ v π x) ⟨hU, t1_186, t1_184, t1_1, by decide +kernel, by decide, by decide⟩ t1_185 rfl hl.1 rfl (Nat.le_of_ble_eq_true rfl) d_D_look_9 ⟨Nat.le_of_ble_eq_true rfl, Nat.le_of_ble_eq_true rfl⟩ (fun r u H locs hp hP hS => ?_)
  obtain ⟨rfl, rfl⟩ := hp
  refine lv_if_ne (tgt := 25) S.1 S.2.1 d_D_look_12 (by decide) (fun c_c => ?_) (fun c_c => ?_)
  · have c_c := pI_yes c_c
    obtain ⟨ch, hch, ech⟩ := isCh_nat c_c
    subst ech
    refine lv_aload_n S.1 S.2.1 d_D_look_25 rfl (lv_at hl 1 rfl) ?_
    refine ur_get (k := 0) (v := .ref (ad 2)) S hK hP (by decide) xg_desk rfl (fun w h => hU w (in_D w h)) 2 (by decide) (hU _ t1_160) rfl d_D_look_26 ?_
    refine lv_aload_n S.1 S.2.1 d_D_look_29 rfl (lv_at hl 1 rfl) ?_
    refine ur_get (k := 0) (v := .ref (ad 4)) S hK hP (by decide) xg_desk rfl (fun w h => hU w (in_D w h)) 3 (by decide) (hU _ t1_161) rfl d_D_look_30 ?_
    refine lv_iload S.1 S.2.1 d_D_look_33 (lv_at hl 0 rfl) ?_
    refine lv_iload_n S.1 S.2.1 d_D_look_35 rfl (lv_at hl 4 rfl) ?_
    refine uVi (n := 2) (b := 4) (As := [.int (nI q), .int (nI ch)]) (rest := [.ref (ad 2)]) S hK hN hP hS (c_B_trackedAt hJ v π n hB (some q) (fun p h => by cases h; omega) ch hch) ⟨hU, t2_154, t3_45, t1_5, by decide +kernel, by decide, by decide⟩ t2_152 t2_153 (by decide) xg_book rfl rfl rfl hl.1 rfl (Nat.le_of_ble_eq_true rfl) d_D_look_36 ⟨Nat.le_of_ble_eq_true rfl, Nat.le_of_ble_eq_true rfl⟩ (fun r u H locs hp hP hS => ?_)
    obtain ⟨rfl, rfl⟩ := hp
    refine lv_iload_n S.1 S.2.1 d_D_look_39 rfl (lv_at hl 4 rfl) ?_
    refine uVi (n := 2) (b := 2) (As := [.int (trk v π ch (some q)), .int (nI ch)]) (rest := []) S hK hN hP hS (c_P_levelOf hJ v π (trk v π ch (some q)) ch hch) ⟨hU, t3_49, t3_46, t1_4, by decide +kernel, by decide, by decide⟩ t3_47 t3_48 (by decide) xg_pal rfl rfl rfl hl.1 rfl (Nat.le_of_ble_eq_true rfl) d_D_look_40 ⟨Nat.le_of_ble_eq_true rfl, Nat.le_of_ble_eq_true rfl⟩ (fun r u H locs hp hP hS => ?_)
    obtain ⟨rfl, rfl⟩ := hp
    exact tIret S hr hlk (v, π) (by decide) (by decide) hP hS (⟨rfl, q, hq0, c_c, by rw [nI_clamp (by omega)]⟩) d_D_look_43
  · have c_c := pI_no c_c
    exact tRaise (sx := 145) (tx := "no such channel") S hlf hTK hx0 hlk hP0 (v, π) hP hS rfl (fun w hw => hU w (tBase_in w hw)) (fun w hw => hU w (tIO_in w hw)) (by decide) Bundle.six_0 Bundle.six_1 Bundle.six_2 Bundle.six_5 (hU _ tcl_143) (by decide) hl.1 d_D_look_15 d_D_look_18 d_D_look_19 d_D_look_21 d_D_look_24 (by decide) (by decide) (by decide) (by decide) (by decide) (by decide) (Or.inr ⟨rfl, ⟨q, hq0⟩, c_c, rfl⟩)

set_option maxRecDepth 100000 in
set_option maxHeartbeats 4000000 in
theorem c_D_source {l : Launch} (hlf : l.flags = pinnedFlags ++ [noTraceFlag]) {D : va_G} {ca : Nat → ClassId} {ad : Nat → Nat} (hJ : uJ 165 ad) (v : Nat → Nat → Nat → Int32) (π : Nat → Nat) (n : Nat) (hB : xBk v π n) (a b x : Int32) : tMi l y_D_source b_D_source 6 (some .int) 7 105 2 12 D clsAll (tysAll ca) 165 ad (xG ca ad) (v, π) [.ref (ad 0), .int a, .int b, .int x] (fun r u => u = (v, π) ∧ ∃ q, fndO v π n a b = some q ∧ isCh x ∧ r = xNum v π (srcO v π x.toNatClampNeg (some q))) (fun X u => (u = (v, π) ∧ fndO v π n a b = none ∧ X = tNS) ∨ (u = (v, π) ∧ (∃ q, fndO v π n a b = some q) ∧ ¬ isCh x ∧ X = tIO)) := by
  refine tStart (by decide) (Nat.le_of_ble_eq_true rfl) ?_
  intro p e s m below meth c ls S hr hlk hK hN hP hTK hx0 hl
  have hP0 := hP
  have hU : ∀ w ∈ uWS, w ∈ (Cond.code y_D_source b_D_source 6 (some .int) :: uWS) := fun w h => List.mem_cons_of_mem _ h
  have hS : va_S (uA 165 ad s.heap.size) s.heap s.heap [] := va_S.rf
  have hl : lv_has ls 6 [(0, .ref (ad 0)), (1, .int a), (2, .int b), (3, .int x)] := hl
  have hn40 : n ≤ 40 := hB.2.1
  refine lv_aload_n S.1 S.2.1 d_D_source_0 rfl (lv_at hl 0 rfl) ?_
  refine lv_iload_n S.1 S.2.1 d_D_source_1 rfl (lv_at hl 1 rfl) ?_
  refine lv_iload_n S.1 S.2.1 d_D_source_2 rfl (lv_at hl 2 rfl) ?_
  refine tVi (n := 2) (b := 0) (As := [.int a, .int b]) (rest := []) S hK hN hTK hP0 hP hS (c_D_placeOrThrow hlf hJ v π  n hB a b) ⟨hU, t2_198, t2_195, t1_1, by decide +kernel, by decide, by decide⟩ t2_197 tp_6 (by decide) xg_desk rfl rfl rfl hl.1 rfl (Nat.le_of_ble_eq_true rfl) d_D_source_3 (by decide) (by decide) (fun r u H locs hp hP hS => ?_) (fun xa X u cell H locs hp hP hS h1 h2 h3 => tLeave hx0 hlk (by decide) (by decide) hP hS (by obtain ⟨rfl, hf, rfl⟩ := hp; exact Or.inl ⟨rfl, hf, rfl⟩) h1 h2 h3)
  obtain ⟨rfl, q, hq0, rfl⟩ := hp
  have hq := fndO_lt _ hq0
  refine lv_istore (lv' := [(4, .int (nI q)), (0, .ref (ad 0)), (1, .int a), (2, .int b), (3, .int x)]) S.1 S.2.1 d_D_source_6 hl (by decide) rfl (fun ls hl => ?_)
  refine lv_iload_n S.1 S.2.1 d_D_source_8 rfl (lv_at hl 4 rfl) ?_
  refine uSi (n := 1) (As := [.int x]) (rest := []) S hK hN hP hS (c_D_isChannel hJ v π x) ⟨hU, t1_186, t1_184, t1_1, by decide +kernel, by decide, by decide⟩ t1_185 rfl hl.1 rfl (Nat.le_of_ble_eq_true rfl) d_D_source_9 ⟨Nat.le_of_ble_eq_true rfl, Nat.le_of_ble_eq_true rfl⟩ (fun r u H locs hp hP hS => ?_)
  obtain ⟨rfl, rfl⟩ := hp
  refine lv_if_ne (tgt := 25) S.1 S.2.1 d_D_source_12 (by decide) (fun c_c => ?_) (fun c_c => ?_)
  · have c_c := pI_yes c_c
    obtain ⟨ch, hch, ech⟩ := isCh_nat c_c
    subst ech
    refine lv_aload_n S.1 S.2.1 d_D_source_25 rfl (lv_at hl 1 rfl) ?_
    refine ur_get (k := 0) (v := .ref (ad 4)) S hK hP (by decide) xg_desk rfl (fun w h => hU w (in_D w h)) 3 (by decide) (hU _ t1_161) rfl d_D_source_26 ?_
    refine lv_iload S.1 S.2.1 d_D_source_29 (lv_at hl 0 rfl) ?_
    refine lv_iload_n S.1 S.2.1 d_D_source_31 rfl (lv_at hl 4 rfl) ?_
    refine uVi (n := 2) (b := 4) (As := [.int (nI q), .int (nI ch)]) (rest := []) S hK hN hP hS (c_B_sourceOf hJ v π n hB (some q) (fun p h => by cases h; omega) ch hch) ⟨hU, t2_158, t3_57, t1_5, by decide +kernel, by decide, by decide⟩ t2_156 t2_157 (by decide) xg_book rfl rfl rfl hl.1 rfl (Nat.le_of_ble_eq_true rfl) d_D_source_32 ⟨Nat.le_of_ble_eq_true rfl, Nat.le_of_ble_eq_true rfl⟩ (fun r u H locs hp hP hS => ?_)
    obtain ⟨rfl, rfl⟩ := hp
    rcases hX_1 : srcO v π ch (some q) with _ | p_2
    · refine lv_istore (lv' := [(5, .int (-1)), (4, .int (nI q)), (0, .ref (ad 0)), (1, .int a), (2, .int b), (3, .int (nI ch))]) S.1 S.2.1 d_D_source_35 hl (by decide) rfl (fun ls hl => ?_)
      refine lv_iload S.1 S.2.1 d_D_source_37 (lv_at hl 0 rfl) ?_
      refine lv_iconst (v := (-1)) S.1 S.2.1 d_D_source_39 (by decide) ?_
      refine lv_icmp_ne (tgt := 47) S.1 S.2.1 d_D_source_40 (by decide) (fun c_3 => ?_) (fun c_3 => ?_)
      · exact absurd rfl c_3
      · refine lv_iconst (v := (-1)) S.1 S.2.1 d_D_source_43 (by decide) ?_
        refine lv_goto (tgt := 59) S.1 S.2.1 d_D_source_44 (by decide) ?_
        exact tIret S hr hlk (v, π) (by decide) (by decide) hP hS (⟨rfl, q, hq0, c_c, by rw [nI_clamp (by omega), hX_1]; rfl⟩) d_D_source_59
    · have hp_2 : p_2 < n := srcO_lt (fun p h => by cases h; omega) _ hX_1
      refine lv_istore (lv' := [(5, .int (nI p_2)), (4, .int (nI q)), (0, .ref (ad 0)), (1, .int a), (2, .int b), (3, .int (nI ch))]) S.1 S.2.1 d_D_source_35 hl (by decide) rfl (fun ls hl => ?_)
      refine lv_iload S.1 S.2.1 d_D_source_37 (lv_at hl 0 rfl) ?_
      refine lv_iconst (v := (-1)) S.1 S.2.1 d_D_source_39 (by decide) ?_
      refine lv_icmp_ne (tgt := 47) S.1 S.2.1 d_D_source_40 (by decide) (fun c_4 => ?_) (fun c_4 => ?_)
      · refine lv_aload_n S.1 S.2.1 d_D_source_47 rfl (lv_at hl 2 rfl) ?_
        refine ur_get (k := 0) (v := .ref (ad 4)) S hK hP (by decide) xg_desk rfl (fun w h => hU w (in_D w h)) 3 (by decide) (hU _ t1_161) rfl d_D_source_48 ?_
        refine lv_iload S.1 S.2.1 d_D_source_51 (lv_at hl 0 rfl) ?_
        refine uVr (n := 1) (b := 4) (As := [.int (nI p_2)]) (rest := []) S hK hN hP hS (c_B_at hJ v π p_2 (by omega)) ⟨hU, t2_11, t2_8, t1_5, by decide +kernel, by decide, by decide⟩ t2_9 t2_10 (by decide) xg_book rfl rfl rfl hl.1 rfl (Nat.le_of_ble_eq_true rfl) d_D_source_53 ⟨Nat.le_of_ble_eq_true rfl, Nat.le_of_ble_eq_true rfl⟩ (fun r u H locs hp hP hS => ?_)
        obtain ⟨rfl, rfl⟩ := hp
        refine ur_getN (k := (89 + (π p_2))) (v := .int (v 11 (π p_2) 0)) S hK hP (kb_C (hB.2.2 _ (by omega))) (xg_cue (hB.2.2 _ (by omega))) rfl (fun w h => hU w (in_C w h)) 2 (by decide) (hN _ t1_79) rfl d_D_source_56 ?_
        exact tIret S hr hlk (v, π) (by decide) (by decide) hP hS (⟨rfl, q, hq0, c_c, by rw [nI_clamp (by omega), hX_1]; rfl⟩) d_D_source_59
      · exact absurd c_4 (nI_nm1 (by omega))
  · have c_c := pI_no c_c
    exact tRaise (sx := 145) (tx := "no such channel") S hlf hTK hx0 hlk hP0 (v, π) hP hS rfl (fun w hw => hU w (tBase_in w hw)) (fun w hw => hU w (tIO_in w hw)) (by decide) Bundle.six_0 Bundle.six_1 Bundle.six_2 Bundle.six_5 (hU _ tcl_143) (by decide) hl.1 d_D_source_15 d_D_source_18 d_D_source_19 d_D_source_21 d_D_source_24 (by decide) (by decide) (by decide) (by decide) (by decide) (by decide) (Or.inr ⟨rfl, ⟨q, hq0⟩, c_c, rfl⟩)

set_option maxRecDepth 100000 in
set_option maxHeartbeats 4000000 in
theorem c_D_cue {l : Launch} (hlf : l.flags = pinnedFlags ++ [noTraceFlag]) {D : va_G} {ca : Nat → ClassId} {ad : Nat → Nat} (hJ : uJ 165 ad) (v : Nat → Nat → Nat → Int32) (π : Nat → Nat) (n : Nat) (hB : xBk v π n) (a x2 x3 : Int32) : tMi l y_D_cue b_D_cue 5 (some .int) 6 87 1 6 D clsAll (tysAll ca) 165 ad (xG ca ad) (v, π) [.ref (ad 0), .int a, .int x2, .int x3] (fun r u => u = (v, π) ∧ isLst a ∧ ((x2 = -1 ∧ x3 = 0 ∧ r = nI (pFor v π n (a + 1) 0) - nI (pFor v π n a 0)) ∨ (xCok (nI (pFor v π n (a + 1) 0) - nI (pFor v π n a 0)) x2 x3 ∧ r = cDet v (π (pFor v π n a 0 + x2.toNatClampNeg)) x3.toNatClampNeg))) (fun X u => u = (v, π) ∧ X = tIO ∧ (¬ isLst a ∨ (isLst a ∧ ¬ (x2 = -1 ∧ x3 = 0) ∧ ¬ xCok (nI (pFor v π n (a + 1) 0) - nI (pFor v π n a 0)) x2 x3))) := by
  refine tStart (by decide) (Nat.le_of_ble_eq_true rfl) ?_
  intro p e s m below meth c ls S hr hlk hK hN hP hTK hx0 hl
  have hP0 := hP
  have hU : ∀ w ∈ uWS, w ∈ (Cond.code y_D_cue b_D_cue 5 (some .int) :: uWS) := fun w h => List.mem_cons_of_mem _ h
  have hS : va_S (uA 165 ad s.heap.size) s.heap s.heap [] := va_S.rf
  have hl : lv_has ls 5 [(0, .ref (ad 0)), (1, .int a), (2, .int x2), (3, .int x3)] := hl
  have hn40 : n ≤ 40 := hB.2.1
  refine lv_iload_n S.1 S.2.1 d_D_cue_0 rfl (lv_at hl 1 rfl) ?_
  refine uSi (n := 1) (As := [.int a]) (rest := []) S hK hN hP hS (c_D_isList hJ v π a) ⟨hU, t2_25, t2_23, t1_1, by decide +kernel, by decide, by decide⟩ t2_24 rfl hl.1 rfl (Nat.le_of_ble_eq_true rfl) d_D_cue_1 ⟨Nat.le_of_ble_eq_true rfl, Nat.le_of_ble_eq_true rfl⟩ (fun r u H locs hp hP hS => ?_)
  obtain ⟨rfl, rfl⟩ := hp
  refine lv_if_ne (tgt := 17) S.1 S.2.1 d_D_cue_4 (by decide) (fun c_a => ?_) (fun c_a => ?_)
  · have c_a := pI_yes c_a
    refine lv_aload_n S.1 S.2.1 d_D_cue_17 rfl (lv_at hl 0 rfl) ?_
    refine ur_get (k := 0) (v := .ref (ad 4)) S hK hP (by decide) xg_desk rfl (fun w h => hU w (in_D w h)) 3 (by decide) (hU _ t1_161) rfl d_D_cue_18 ?_
    refine lv_iload_n S.1 S.2.1 d_D_cue_21 rfl (lv_at hl 1 rfl) ?_
    refine uVi (n := 1) (b := 4) (As := [.int a]) (rest := []) S hK hN hP hS (c_B_lengthOf hJ v π n hB a) ⟨hU, t3_69, t3_66, t1_5, by decide +kernel, by decide, by decide⟩ t3_67 t3_68 (by decide) xg_book rfl rfl rfl hl.1 rfl (Nat.le_of_ble_eq_true rfl) d_D_cue_22 ⟨Nat.le_of_ble_eq_true rfl, Nat.le_of_ble_eq_true rfl⟩ (fun r u H locs hp hP hS => ?_)
    obtain ⟨rfl, rfl⟩ := hp
    refine lv_istore (lv' := [(4, .int (nI (pFor v π n (a + 1) 0) - nI (pFor v π n a 0))), (0, .ref (ad 0)), (1, .int a), (2, .int x2), (3, .int x3)]) S.1 S.2.1 d_D_cue_25 hl (by decide) rfl (fun ls hl => ?_)
    refine lv_iload_n S.1 S.2.1 d_D_cue_27 rfl (lv_at hl 3 rfl) ?_
    refine lv_iconst (v := (-1)) S.1 S.2.1 d_D_cue_28 (by decide) ?_
    refine lv_icmp_ne (tgt := 39) S.1 S.2.1 d_D_cue_29 (by decide) (fun c_m => ?_) (fun c_m => ?_)
    · refine lv_iload_n S.1 S.2.1 d_D_cue_39 rfl (lv_at hl 3 rfl) ?_
      refine lv_if_lt (tgt := 58) S.1 S.2.1 d_D_cue_40 (by decide) (fun c_i0 => ?_) (fun c_i0 => ?_)
      · exact tRaise (sx := 165) (tx := "no such cue or detail") S hlf hTK hx0 hlk hP0 (v, π) hP hS rfl (fun w hw => hU w (tBase_in w hw)) (fun w hw => hU w (tIO_in w hw)) (by decide) Bundle.six_0 Bundle.six_1 Bundle.six_2 Bundle.six_5 (hU _ tcl_143) (by decide) hl.1 d_D_cue_58 d_D_cue_61 d_D_cue_62 d_D_cue_64 d_D_cue_67 (by decide) (by decide) (by decide) (by decide) (by decide) (by decide) (⟨rfl, rfl, Or.inr ⟨c_a, fun z => c_m z.1, fun z => z.1 c_i0⟩⟩)
      · refine lv_iload_n S.1 S.2.1 d_D_cue_43 rfl (lv_at hl 3 rfl) ?_
        refine lv_iload S.1 S.2.1 d_D_cue_44 (lv_at hl 0 rfl) ?_
        refine lv_icmp_ge (tgt := 58) S.1 S.2.1 d_D_cue_46 (by decide) (fun c_il => ?_) (fun c_il => ?_)
        · exact tRaise (sx := 165) (tx := "no such cue or detail") S hlf hTK hx0 hlk hP0 (v, π) hP hS rfl (fun w hw => hU w (tBase_in w hw)) (fun w hw => hU w (tIO_in w hw)) (by decide) Bundle.six_0 Bundle.six_1 Bundle.six_2 Bundle.six_5 (hU _ tcl_143) (by decide) hl.1 d_D_cue_58 d_D_cue_61 d_D_cue_62 d_D_cue_64 d_D_cue_67 (by decide) (by decide) (by decide) (by decide) (by decide) (by decide) (⟨rfl, rfl, Or.inr ⟨c_a, fun z => c_m z.1, fun z => z.2.1 c_il⟩⟩)
        · refine lv_iload_n S.1 S.2.1 d_D_cue_49 rfl (lv_at hl 4 rfl) ?_
          refine lv_if_lt (tgt := 58) S.1 S.2.1 d_D_cue_50 (by decide) (fun c_w0 => ?_) (fun c_w0 => ?_)
          · exact tRaise (sx := 165) (tx := "no such cue or detail") S hlf hTK hx0 hlk hP0 (v, π) hP hS rfl (fun w hw => hU w (tBase_in w hw)) (fun w hw => hU w (tIO_in w hw)) (by decide) Bundle.six_0 Bundle.six_1 Bundle.six_2 Bundle.six_5 (hU _ tcl_143) (by decide) hl.1 d_D_cue_58 d_D_cue_61 d_D_cue_62 d_D_cue_64 d_D_cue_67 (by decide) (by decide) (by decide) (by decide) (by decide) (by decide) (⟨rfl, rfl, Or.inr ⟨c_a, fun z => c_m z.1, fun z => z.2.2.1 c_w0⟩⟩)
          · refine lv_iload_n S.1 S.2.1 d_D_cue_53 rfl (lv_at hl 4 rfl) ?_
            refine lv_iconst (v := 5) S.1 S.2.1 d_D_cue_54 (by decide) ?_
            refine lv_icmp_le (tgt := 68) S.1 S.2.1 d_D_cue_55 (by decide) (fun c_w5 => ?_) (fun c_w5 => ?_)
            · obtain ⟨k, hk, rfl⟩ := nI_of c_i0
              have hbk := cue_in hB.2.1 hk c_il
              obtain ⟨d, hd, rfl⟩ := isD_nat c_w0 c_w5
              refine lv_aload_n S.1 S.2.1 d_D_cue_68 rfl (lv_at hl 1 rfl) ?_
              refine ur_get (k := 0) (v := .ref (ad 4)) S hK hP (by decide) xg_desk rfl (fun w h => hU w (in_D w h)) 3 (by decide) (hU _ t1_161) rfl d_D_cue_69 ?_
              refine lv_aload_n S.1 S.2.1 d_D_cue_72 rfl (lv_at hl 1 rfl) ?_
              refine ur_get (k := 0) (v := .ref (ad 4)) S hK hP (by decide) xg_desk rfl (fun w h => hU w (in_D w h)) 3 (by decide) (hU _ t1_161) rfl d_D_cue_73 ?_
              refine lv_iload_n S.1 S.2.1 d_D_cue_76 rfl (lv_at hl 2 rfl) ?_
              refine uVi (n := 1) (b := 4) (As := [.int a]) (rest := [.ref (ad 4)]) S hK hN hP hS (c_B_firstOf hJ v π n hB a) ⟨hU, t3_73, t3_75, t1_5, by decide +kernel, by decide, by decide⟩ t3_71 t3_72 (by decide) xg_book rfl rfl rfl hl.1 rfl (Nat.le_of_ble_eq_true rfl) d_D_cue_77 ⟨Nat.le_of_ble_eq_true rfl, Nat.le_of_ble_eq_true rfl⟩ (fun r u H locs hp hP hS => ?_)
              obtain ⟨rfl, rfl⟩ := hp
              refine lv_iload_n S.1 S.2.1 d_D_cue_80 rfl (lv_at hl 3 rfl) ?_
              refine lv_iadd S.1 S.2.1 d_D_cue_81 ?_
              rw [nI_add]
              refine uVr (n := 1) (b := 4) (As := [.int (nI (pFor v π n a 0 + k))]) (rest := []) S hK hN hP hS (c_B_at hJ v π (pFor v π n a 0 + k) (by omega)) ⟨hU, t2_11, t2_8, t1_5, by decide +kernel, by decide, by decide⟩ t2_9 t2_10 (by decide) xg_book rfl rfl rfl hl.1 rfl (Nat.le_of_ble_eq_true rfl) d_D_cue_82 ⟨Nat.le_of_ble_eq_true rfl, Nat.le_of_ble_eq_true rfl⟩ (fun r u H locs hp hP hS => ?_)
              obtain ⟨rfl, rfl⟩ := hp
              refine lv_iload_n S.1 S.2.1 d_D_cue_85 rfl (lv_at hl 4 rfl) ?_
              refine uVi (n := 1) (b := (89 + (π (pFor v π n a 0 + k)))) (As := [.int (nI d)]) (rest := []) S hK hN hP hS (c_C_detail hJ v π (π (pFor v π n a 0 + k)) (hB.2.2 _ (by omega)) d hd) ⟨hU, t3_79, t3_76, t1_6, by decide +kernel, by decide, by decide⟩ t3_77 t3_78 (kb_C (hB.2.2 _ (by omega))) (xg_cue (hB.2.2 _ (by omega))) rfl rfl rfl hl.1 rfl (Nat.le_of_ble_eq_true rfl) d_D_cue_86 ⟨Nat.le_of_ble_eq_true rfl, Nat.le_of_ble_eq_true rfl⟩ (fun r u H locs hp hP hS => ?_)
              obtain ⟨rfl, rfl⟩ := hp
              exact tIret S hr hlk (v, π) (by decide) (by decide) hP hS (⟨rfl, c_a, Or.inr ⟨⟨c_i0, c_il, c_w0, c_w5⟩, by rw [nI_clamp (by omega), nI_clamp (by omega)]⟩⟩) d_D_cue_89
            · exact tRaise (sx := 165) (tx := "no such cue or detail") S hlf hTK hx0 hlk hP0 (v, π) hP hS rfl (fun w hw => hU w (tBase_in w hw)) (fun w hw => hU w (tIO_in w hw)) (by decide) Bundle.six_0 Bundle.six_1 Bundle.six_2 Bundle.six_5 (hU _ tcl_143) (by decide) hl.1 d_D_cue_58 d_D_cue_61 d_D_cue_62 d_D_cue_64 d_D_cue_67 (by decide) (by decide) (by decide) (by decide) (by decide) (by decide) (⟨rfl, rfl, Or.inr ⟨c_a, fun z => c_m z.1, fun z => c_w5 z.2.2.2⟩⟩)
    · refine lv_iload_n S.1 S.2.1 d_D_cue_32 rfl (lv_at hl 4 rfl) ?_
      refine lv_if_ne (tgt := 39) S.1 S.2.1 d_D_cue_33 (by decide) (fun c_w => ?_) (fun c_w => ?_)
      · refine lv_iload_n S.1 S.2.1 d_D_cue_39 rfl (lv_at hl 3 rfl) ?_
        refine lv_if_lt (tgt := 58) S.1 S.2.1 d_D_cue_40 (by decide) (fun c_i0 => ?_) (fun c_i0 => ?_)
        · exact tRaise (sx := 165) (tx := "no such cue or detail") S hlf hTK hx0 hlk hP0 (v, π) hP hS rfl (fun w hw => hU w (tBase_in w hw)) (fun w hw => hU w (tIO_in w hw)) (by decide) Bundle.six_0 Bundle.six_1 Bundle.six_2 Bundle.six_5 (hU _ tcl_143) (by decide) hl.1 d_D_cue_58 d_D_cue_61 d_D_cue_62 d_D_cue_64 d_D_cue_67 (by decide) (by decide) (by decide) (by decide) (by decide) (by decide) (⟨rfl, rfl, Or.inr ⟨c_a, fun z => c_w z.2, fun z => z.1 c_i0⟩⟩)
        · refine lv_iload_n S.1 S.2.1 d_D_cue_43 rfl (lv_at hl 3 rfl) ?_
          refine lv_iload S.1 S.2.1 d_D_cue_44 (lv_at hl 0 rfl) ?_
          refine lv_icmp_ge (tgt := 58) S.1 S.2.1 d_D_cue_46 (by decide) (fun c_il => ?_) (fun c_il => ?_)
          · exact tRaise (sx := 165) (tx := "no such cue or detail") S hlf hTK hx0 hlk hP0 (v, π) hP hS rfl (fun w hw => hU w (tBase_in w hw)) (fun w hw => hU w (tIO_in w hw)) (by decide) Bundle.six_0 Bundle.six_1 Bundle.six_2 Bundle.six_5 (hU _ tcl_143) (by decide) hl.1 d_D_cue_58 d_D_cue_61 d_D_cue_62 d_D_cue_64 d_D_cue_67 (by decide) (by decide) (by decide) (by decide) (by decide) (by decide) (⟨rfl, rfl, Or.inr ⟨c_a, fun z => c_w z.2, fun z => z.2.1 c_il⟩⟩)
          · refine lv_iload_n S.1 S.2.1 d_D_cue_49 rfl (lv_at hl 4 rfl) ?_
            refine lv_if_lt (tgt := 58) S.1 S.2.1 d_D_cue_50 (by decide) (fun c_w0 => ?_) (fun c_w0 => ?_)
            · exact tRaise (sx := 165) (tx := "no such cue or detail") S hlf hTK hx0 hlk hP0 (v, π) hP hS rfl (fun w hw => hU w (tBase_in w hw)) (fun w hw => hU w (tIO_in w hw)) (by decide) Bundle.six_0 Bundle.six_1 Bundle.six_2 Bundle.six_5 (hU _ tcl_143) (by decide) hl.1 d_D_cue_58 d_D_cue_61 d_D_cue_62 d_D_cue_64 d_D_cue_67 (by decide) (by decide) (by decide) (by decide) (by decide) (by decide) (⟨rfl, rfl, Or.inr ⟨c_a, fun z => c_w z.2, fun z => z.2.2.1 c_w0⟩⟩)
            · refine lv_iload_n S.1 S.2.1 d_D_cue_53 rfl (lv_at hl 4 rfl) ?_
              refine lv_iconst (v := 5) S.1 S.2.1 d_D_cue_54 (by decide) ?_
              refine lv_icmp_le (tgt := 68) S.1 S.2.1 d_D_cue_55 (by decide) (fun c_w5 => ?_) (fun c_w5 => ?_)
              · obtain ⟨k, hk, rfl⟩ := nI_of c_i0
                have hbk := cue_in hB.2.1 hk c_il
                obtain ⟨d, hd, rfl⟩ := isD_nat c_w0 c_w5
                refine lv_aload_n S.1 S.2.1 d_D_cue_68 rfl (lv_at hl 1 rfl) ?_
                refine ur_get (k := 0) (v := .ref (ad 4)) S hK hP (by decide) xg_desk rfl (fun w h => hU w (in_D w h)) 3 (by decide) (hU _ t1_161) rfl d_D_cue_69 ?_
                refine lv_aload_n S.1 S.2.1 d_D_cue_72 rfl (lv_at hl 1 rfl) ?_
                refine ur_get (k := 0) (v := .ref (ad 4)) S hK hP (by decide) xg_desk rfl (fun w h => hU w (in_D w h)) 3 (by decide) (hU _ t1_161) rfl d_D_cue_73 ?_
                refine lv_iload_n S.1 S.2.1 d_D_cue_76 rfl (lv_at hl 2 rfl) ?_
                refine uVi (n := 1) (b := 4) (As := [.int a]) (rest := [.ref (ad 4)]) S hK hN hP hS (c_B_firstOf hJ v π n hB a) ⟨hU, t3_73, t3_75, t1_5, by decide +kernel, by decide, by decide⟩ t3_71 t3_72 (by decide) xg_book rfl rfl rfl hl.1 rfl (Nat.le_of_ble_eq_true rfl) d_D_cue_77 ⟨Nat.le_of_ble_eq_true rfl, Nat.le_of_ble_eq_true rfl⟩ (fun r u H locs hp hP hS => ?_)
                obtain ⟨rfl, rfl⟩ := hp
                refine lv_iload_n S.1 S.2.1 d_D_cue_80 rfl (lv_at hl 3 rfl) ?_
                refine lv_iadd S.1 S.2.1 d_D_cue_81 ?_
                rw [nI_add]
                refine uVr (n := 1) (b := 4) (As := [.int (nI (pFor v π n a 0 + k))]) (rest := []) S hK hN hP hS (c_B_at hJ v π (pFor v π n a 0 + k) (by omega)) ⟨hU, t2_11, t2_8, t1_5, by decide +kernel, by decide, by decide⟩ t2_9 t2_10 (by decide) xg_book rfl rfl rfl hl.1 rfl (Nat.le_of_ble_eq_true rfl) d_D_cue_82 ⟨Nat.le_of_ble_eq_true rfl, Nat.le_of_ble_eq_true rfl⟩ (fun r u H locs hp hP hS => ?_)
                obtain ⟨rfl, rfl⟩ := hp
                refine lv_iload_n S.1 S.2.1 d_D_cue_85 rfl (lv_at hl 4 rfl) ?_
                refine uVi (n := 1) (b := (89 + (π (pFor v π n a 0 + k)))) (As := [.int (nI d)]) (rest := []) S hK hN hP hS (c_C_detail hJ v π (π (pFor v π n a 0 + k)) (hB.2.2 _ (by omega)) d hd) ⟨hU, t3_79, t3_76, t1_6, by decide +kernel, by decide, by decide⟩ t3_77 t3_78 (kb_C (hB.2.2 _ (by omega))) (xg_cue (hB.2.2 _ (by omega))) rfl rfl rfl hl.1 rfl (Nat.le_of_ble_eq_true rfl) d_D_cue_86 ⟨Nat.le_of_ble_eq_true rfl, Nat.le_of_ble_eq_true rfl⟩ (fun r u H locs hp hP hS => ?_)
                obtain ⟨rfl, rfl⟩ := hp
                exact tIret S hr hlk (v, π) (by decide) (by decide) hP hS (⟨rfl, c_a, Or.inr ⟨⟨c_i0, c_il, c_w0, c_w5⟩, by rw [nI_clamp (by omega), nI_clamp (by omega)]⟩⟩) d_D_cue_89
              · exact tRaise (sx := 165) (tx := "no such cue or detail") S hlf hTK hx0 hlk hP0 (v, π) hP hS rfl (fun w hw => hU w (tBase_in w hw)) (fun w hw => hU w (tIO_in w hw)) (by decide) Bundle.six_0 Bundle.six_1 Bundle.six_2 Bundle.six_5 (hU _ tcl_143) (by decide) hl.1 d_D_cue_58 d_D_cue_61 d_D_cue_62 d_D_cue_64 d_D_cue_67 (by decide) (by decide) (by decide) (by decide) (by decide) (by decide) (⟨rfl, rfl, Or.inr ⟨c_a, fun z => c_w z.2, fun z => c_w5 z.2.2.2⟩⟩)
      · refine lv_iload S.1 S.2.1 d_D_cue_36 (lv_at hl 0 rfl) ?_
        exact tIret S hr hlk (v, π) (by decide) (by decide) hP hS (⟨rfl, c_a, Or.inl ⟨c_m, c_w, rfl⟩⟩) d_D_cue_38
  · have c_a := pI_no c_a
    exact tRaise (sx := 160) (tx := "no such list") S hlf hTK hx0 hlk hP0 (v, π) hP hS rfl (fun w hw => hU w (tBase_in w hw)) (fun w hw => hU w (tIO_in w hw)) (by decide) Bundle.six_0 Bundle.six_1 Bundle.six_2 Bundle.six_5 (hU _ tcl_143) (by decide) hl.1 d_D_cue_7 d_D_cue_10 d_D_cue_11 d_D_cue_13 d_D_cue_16 (by decide) (by decide) (by decide) (by decide) (by decide) (by decide) (⟨rfl, rfl, Or.inl c_a⟩)

set_option maxRecDepth 100000 in
set_option maxHeartbeats 4000000 in
theorem c_D_go {l : Launch} (hlf : l.flags = pinnedFlags ++ [noTraceFlag]) {D : va_G} {ca : Nat → ClassId} {ad : Nat → Nat} (hJ : uJ 165 ad) (v : Nat → Nat → Nat → Int32) (π : Nat → Nat) (M : Nat) (hM : M = 64) (n : Nat) (hB : xBk v π n) (Q6 : Nat) (h6 : Q6 = 6) (T1 : Nat) (hT1 : T1 = 1000) (x1 x2 t : Int32) : tMi l y_D_go b_D_go 6 (some .int) 6 139 1 6 D clsAll (tysAll ca) 165 ad (xG ca ad) (v, π) [.ref (ad 0), .int x1, .int x2, .int t] (fun r u => (isPb x1 ∧ xTick v t) ∧ ∃ q, goQ (vTell v π n t M Q6 T1) π n x1.toNatClampNeg x2 = some q ∧ u = (vStart (vTell v π n t M Q6 T1) π x1.toNatClampNeg q t M, π) ∧ r = vStart (vTell v π n t M Q6 T1) π x1.toNatClampNeg q t M 27 x1.toNatClampNeg 0) (fun X u => (¬ (isPb x1 ∧ xTick v t) ∧ u = (v, π) ∧ X = tIA) ∨ ((isPb x1 ∧ xTick v t) ∧ goQ (vTell v π n t M Q6 T1) π n x1.toNatClampNeg x2 = none ∧ u = ((vTell v π n t M Q6 T1), π) ∧ X = tNS)) := by
  refine tStart (by decide) (Nat.le_of_ble_eq_true rfl) ?_
  intro p e s m below meth c ls S hr hlk hK hN hP hTK hx0 hl
  have hP0 := hP
  have hU : ∀ w ∈ uWS, w ∈ (Cond.code y_D_go b_D_go 6 (some .int) :: uWS) := fun w h => List.mem_cons_of_mem _ h
  have hS : va_S (uA 165 ad s.heap.size) s.heap s.heap [] := va_S.rf
  have hl : lv_has ls 6 [(0, .ref (ad 0)), (1, .int x1), (2, .int x2), (3, .int t)] := hl
  have hn40 : n ≤ 40 := hB.2.1
  refine lv_iload_n S.1 S.2.1 d_D_go_0 rfl (lv_at hl 1 rfl) ?_
  refine uSi (n := 1) (As := [.int x1]) (rest := []) S hK hN hP hS (c_D_isPlayback hJ v π x1) ⟨hU, t2_22, t2_20, t1_1, by decide +kernel, by decide, by decide⟩ t2_21 rfl hl.1 rfl (Nat.le_of_ble_eq_true rfl) d_D_go_1 ⟨Nat.le_of_ble_eq_true rfl, Nat.le_of_ble_eq_true rfl⟩ (fun r u H locs hp hP hS => ?_)
  obtain ⟨rfl, rfl⟩ := hp
  refine lv_if_eq (tgt := 15) S.1 S.2.1 d_D_go_4 (by decide) (fun c_a => ?_) (fun c_a => ?_)
  · have c_a := pI_no c_a
    exact tRaise (sx := 185) (tx := "no such playback or tick") S hlf hTK hx0 hlk hP0 (v, π) hP hS rfl (fun w hw => hU w (tBase_in w hw)) (fun w hw => hU w (tIA_in w hw)) (by decide) Bundle.six_0 Bundle.six_1 Bundle.six_2 Bundle.six_5 (hU _ tcl_82) (by decide) hl.1 d_D_go_15 d_D_go_18 d_D_go_19 d_D_go_21 d_D_go_24 (by decide) (by decide) (by decide) (by decide) (by decide) (by decide) (Or.inl ⟨fun z => c_a z.1, rfl, rfl⟩)
  · have c_a := pI_yes c_a
    refine lv_aload_n S.1 S.2.1 d_D_go_7 rfl (lv_at hl 0 rfl) ?_
    refine lv_iload_n S.1 S.2.1 d_D_go_8 rfl (lv_at hl 3 rfl) ?_
    refine uVi (n := 1) (b := 0) (As := [.int t]) (rest := []) S hK hN hP hS (c_D_isTellable hJ v π t) ⟨hU, t3_90, t3_87, t1_1, by decide +kernel, by decide, by decide⟩ t3_89 tp_8 (by decide) xg_desk rfl rfl rfl hl.1 rfl (Nat.le_of_ble_eq_true rfl) d_D_go_9 ⟨Nat.le_of_ble_eq_true rfl, Nat.le_of_ble_eq_true rfl⟩ (fun r u H locs hp hP hS => ?_)
    obtain ⟨rfl, rfl⟩ := hp
    refine lv_if_ne (tgt := 25) S.1 S.2.1 d_D_go_12 (by decide) (fun c_b => ?_) (fun c_b => ?_)
    · have c_b := pI_yes c_b
      obtain ⟨j, hj, ej⟩ := isPb_nat c_a
      subst ej
      refine lv_aload_n S.1 S.2.1 d_D_go_25 rfl (lv_at hl 0 rfl) ?_
      refine lv_iload_n S.1 S.2.1 d_D_go_26 rfl (lv_at hl 3 rfl) ?_
      refine uVv (n := 1) (b := 0) (As := [.int t]) (rest := []) S hK hN hP hS (c_D_tell hJ v π M hM n hB Q6 h6 T1 hT1 t) ⟨hU, t3_96, t3_93, t1_1, by decide +kernel, by decide, by decide⟩ t3_95 tp_9 (by decide) xg_desk rfl rfl rfl hl.1 rfl (Nat.le_of_ble_eq_true rfl) d_D_go_27 ⟨Nat.le_of_ble_eq_true rfl, Nat.le_of_ble_eq_true rfl⟩ (fun u H locs hp hP hS => ?_)
      obtain rfl := hp
      have hB1 := xBk_tell (t := t) (M := M) (Q6 := Q6) (T1 := T1) hB
      have hw0 : up3 (tl π n t M Q6 T1 v) 5 0 0 t = (vTell v π n t M Q6 T1) := rfl
      rw [hw0] at hP
      obtain ⟨w, hw⟩ : ∃ z, z = (vTell v π n t M Q6 T1) := ⟨_, rfl⟩
      rw [← hw] at hP hB1
      have hB := hB1
      refine lv_aload_n S.1 S.2.1 d_D_go_30 rfl (lv_at hl 0 rfl) ?_
      refine ur_get (k := 0) (v := .ref (ad 6)) S hK hP (by decide) xg_desk rfl (fun w h => hU w (in_D w h)) 4 (by decide) (hU _ t1_162) rfl d_D_go_31 ?_
      refine lv_iload_n S.1 S.2.1 d_D_go_34 rfl (lv_at hl 1 rfl) ?_
      refine ur_aald (k := 6) (q := ad (129 + 6 * j)) (j := j) S hK hP (by decide) 3 xg_plys rfl rfl hj (by decide) rfl d_D_go_35 ?_
      refine lv_astore (lv' := [(4, .ref (ad (129 + 6 * j))), (0, .ref (ad 0)), (1, .int (nI j)), (2, .int x2), (3, .int t)]) S.1 S.2.1 d_D_go_36 hl (by decide) rfl (fun ls hl => ?_)
      refine lv_iload_n S.1 S.2.1 d_D_go_38 rfl (lv_at hl 3 rfl) ?_
      refine lv_if_eq (tgt := 62) S.1 S.2.1 d_D_go_39 (by decide) (fun c_k => ?_) (fun c_k => ?_)
      · refine lv_aload_n S.1 S.2.1 d_D_go_62 rfl (lv_at hl 1 rfl) ?_
        refine ur_get (k := 0) (v := .ref (ad 4)) S hK hP (by decide) xg_desk rfl (fun w h => hU w (in_D w h)) 3 (by decide) (hU _ t1_161) rfl d_D_go_63 ?_
        refine lv_aload S.1 S.2.1 d_D_go_66 (lv_at hl 0 rfl) ?_
        refine ur_getN (k := (129 + 6 * j)) (v := .int (w 25 j 0)) S hK hP (kb_Y hj) (xg_ply hj) rfl (fun w h => hU w (in_Y w h)) 5 (by decide) (hN _ t1_128) rfl d_D_go_68 ?_
        refine lv_aload S.1 S.2.1 d_D_go_71 (lv_at hl 0 rfl) ?_
        refine ur_getN (k := (129 + 6 * j)) (v := .int (w 27 j 0)) S hK hP (kb_Y hj) (xg_ply hj) rfl (fun w h => hU w (in_Y w h)) 7 (by decide) (hN _ t1_132) rfl d_D_go_73 ?_
        refine uVi (n := 2) (b := 4) (As := [.int (w 25 j 0), .int (w 27 j 0)]) (rest := []) S hK hN hP hS (c_B_placeAbove hJ w π n hB (w 25 j 0) (w 27 j 0)) ⟨hU, t2_127, t3_105, t1_5, by decide +kernel, by decide, by decide⟩ t2_125 t2_126 (by decide) xg_book rfl rfl rfl hl.1 rfl (Nat.le_of_ble_eq_true rfl) d_D_go_76 ⟨Nat.le_of_ble_eq_true rfl, Nat.le_of_ble_eq_true rfl⟩ (fun r u H locs hp hP hS => ?_)
        obtain ⟨rfl, rfl⟩ := hp
        rcases hX_1 : abvO w π n (w 25 j 0) (w 27 j 0) with _ | p_2
        · refine lv_istore (lv' := [(5, .int (-1)), (4, .ref (ad (129 + 6 * j))), (0, .ref (ad 0)), (1, .int (nI j)), (2, .int x2), (3, .int t)]) S.1 S.2.1 d_D_go_79 hl (by decide) rfl (fun ls hl => ?_)
          refine lv_iload S.1 S.2.1 d_D_go_81 (lv_at hl 0 rfl) ?_
          refine lv_iconst (v := (-1)) S.1 S.2.1 d_D_go_83 (by decide) ?_
          refine lv_icmp_ne (tgt := 97) S.1 S.2.1 d_D_go_84 (by decide) (fun c_3 => ?_) (fun c_3 => ?_)
          · exact absurd rfl c_3
          · exact tRaise (sx := 201) (tx := "no list or no such cue") S hlf hTK hx0 hlk hP0 (w, π) hP hS rfl (fun w hw => hU w (tBase_in w hw)) (fun w hw => hU w (tNS_in w hw)) (by decide) s13_0 s13_1 s13_2 s13_5 (hU _ tcl_199) (by decide) hl.1 d_D_go_87 d_D_go_90 d_D_go_91 d_D_go_93 d_D_go_96 (by decide) (by decide) (by decide) (by decide) (by decide) (by decide) (Or.inr ⟨⟨c_a, c_b⟩, by rw [nI_clamp (by omega), ← hw]; unfold goQ; rw [if_pos c_k, hX_1], by rw [hw], rfl⟩)
        · have hp_2 : p_2 < n := abvO_lt _ hX_1
          refine lv_istore (lv' := [(5, .int (nI p_2)), (4, .ref (ad (129 + 6 * j))), (0, .ref (ad 0)), (1, .int (nI j)), (2, .int x2), (3, .int t)]) S.1 S.2.1 d_D_go_79 hl (by decide) rfl (fun ls hl => ?_)
          refine lv_iload S.1 S.2.1 d_D_go_81 (lv_at hl 0 rfl) ?_
          refine lv_iconst (v := (-1)) S.1 S.2.1 d_D_go_83 (by decide) ?_
          refine lv_icmp_ne (tgt := 97) S.1 S.2.1 d_D_go_84 (by decide) (fun c_4 => ?_) (fun c_4 => ?_)
          · refine lv_aload_n S.1 S.2.1 d_D_go_97 rfl (lv_at hl 2 rfl) ?_
            refine lv_aload S.1 S.2.1 d_D_go_98 (lv_at hl 1 rfl) ?_
            refine lv_iload S.1 S.2.1 d_D_go_100 (lv_at hl 0 rfl) ?_
            refine lv_iload_n S.1 S.2.1 d_D_go_102 rfl (lv_at hl 5 rfl) ?_
            refine uVv (n := 3) (b := 0) (As := [.ref (ad (129 + 6 * j)), .int (nI p_2), .int t]) (rest := []) S hK hN hP hS (c_D_startCue hJ w π M hM n hB j p_2 hj (by omega) t) ⟨hU, t3_109, t3_106, t1_1, by decide +kernel, by decide, by decide⟩ t3_108 tp_12 (by decide) xg_desk rfl rfl rfl hl.1 rfl (Nat.le_of_ble_eq_true rfl) d_D_go_103 ⟨Nat.le_of_ble_eq_true rfl, Nat.le_of_ble_eq_true rfl⟩ (fun u H locs hp hP hS => ?_)
            obtain rfl := hp
            refine lv_aload S.1 S.2.1 d_D_go_106 (lv_at hl 1 rfl) ?_
            refine ur_getN (k := (129 + 6 * j)) (v := .int ((vStart w π j p_2 t M) 27 j 0)) S hK hP (kb_Y hj) (xg_ply hj) rfl (fun w h => hU w (in_Y w h)) 7 (by decide) (hN _ t1_132) rfl d_D_go_108 ?_
            exact tIret S hr hlk ((vStart w π j p_2 t M), π) (by decide) (by decide) hP hS (⟨⟨c_a, c_b⟩, _, by rw [nI_clamp (by omega), ← hw]; unfold goQ; rw [if_pos c_k, hX_1], by rw [nI_clamp (by omega), ← hw], by rw [nI_clamp (by omega), ← hw]⟩) d_D_go_111
          · exact absurd c_4 (nI_nm1 (by omega))
      · refine lv_aload_n S.1 S.2.1 d_D_go_42 rfl (lv_at hl 1 rfl) ?_
        refine ur_get (k := 0) (v := .ref (ad 4)) S hK hP (by decide) xg_desk rfl (fun w h => hU w (in_D w h)) 3 (by decide) (hU _ t1_161) rfl d_D_go_43 ?_
        refine lv_aload S.1 S.2.1 d_D_go_46 (lv_at hl 0 rfl) ?_
        refine ur_getN (k := (129 + 6 * j)) (v := .int (w 25 j 0)) S hK hP (kb_Y hj) (xg_ply hj) rfl (fun w h => hU w (in_Y w h)) 5 (by decide) (hN _ t1_128) rfl d_D_go_48 ?_
        refine lv_aload S.1 S.2.1 d_D_go_51 (lv_at hl 0 rfl) ?_
        refine ur_getN (k := (129 + 6 * j)) (v := .int (w 27 j 0)) S hK hP (kb_Y hj) (xg_ply hj) rfl (fun w h => hU w (in_Y w h)) 7 (by decide) (hN _ t1_132) rfl d_D_go_53 ?_
        refine uVi (n := 2) (b := 4) (As := [.int (w 25 j 0), .int (w 27 j 0)]) (rest := []) S hK hN hP hS (c_B_placeBelow hJ w π n hB (w 25 j 0) (w 27 j 0)) ⟨hU, t3_19, t3_118, t1_5, by decide +kernel, by decide, by decide⟩ t3_17 t3_18 (by decide) xg_book rfl rfl rfl hl.1 rfl (Nat.le_of_ble_eq_true rfl) d_D_go_56 ⟨Nat.le_of_ble_eq_true rfl, Nat.le_of_ble_eq_true rfl⟩ (fun r u H locs hp hP hS => ?_)
        obtain ⟨rfl, rfl⟩ := hp
        refine lv_goto (tgt := 79) S.1 S.2.1 d_D_go_59 (by decide) ?_
        rcases hX_5 : blwO w π n (w 25 j 0) (w 27 j 0) with _ | p_6
        · refine lv_istore (lv' := [(5, .int (-1)), (4, .ref (ad (129 + 6 * j))), (0, .ref (ad 0)), (1, .int (nI j)), (2, .int x2), (3, .int t)]) S.1 S.2.1 d_D_go_79 hl (by decide) rfl (fun ls hl => ?_)
          refine lv_iload S.1 S.2.1 d_D_go_81 (lv_at hl 0 rfl) ?_
          refine lv_iconst (v := (-1)) S.1 S.2.1 d_D_go_83 (by decide) ?_
          refine lv_icmp_ne (tgt := 97) S.1 S.2.1 d_D_go_84 (by decide) (fun c_7 => ?_) (fun c_7 => ?_)
          · exact absurd rfl c_7
          · exact tRaise (sx := 201) (tx := "no list or no such cue") S hlf hTK hx0 hlk hP0 (w, π) hP hS rfl (fun w hw => hU w (tBase_in w hw)) (fun w hw => hU w (tNS_in w hw)) (by decide) s13_0 s13_1 s13_2 s13_5 (hU _ tcl_199) (by decide) hl.1 d_D_go_87 d_D_go_90 d_D_go_91 d_D_go_93 d_D_go_96 (by decide) (by decide) (by decide) (by decide) (by decide) (by decide) (Or.inr ⟨⟨c_a, c_b⟩, by rw [nI_clamp (by omega), ← hw]; unfold goQ; rw [if_neg c_k, hX_5], by rw [hw], rfl⟩)
        · have hp_6 : p_6 < n := blwO_lt _ hX_5
          refine lv_istore (lv' := [(5, .int (nI p_6)), (4, .ref (ad (129 + 6 * j))), (0, .ref (ad 0)), (1, .int (nI j)), (2, .int x2), (3, .int t)]) S.1 S.2.1 d_D_go_79 hl (by decide) rfl (fun ls hl => ?_)
          refine lv_iload S.1 S.2.1 d_D_go_81 (lv_at hl 0 rfl) ?_
          refine lv_iconst (v := (-1)) S.1 S.2.1 d_D_go_83 (by decide) ?_
          refine lv_icmp_ne (tgt := 97) S.1 S.2.1 d_D_go_84 (by decide) (fun c_8 => ?_) (fun c_8 => ?_)
          · refine lv_aload_n S.1 S.2.1 d_D_go_97 rfl (lv_at hl 2 rfl) ?_
            refine lv_aload S.1 S.2.1 d_D_go_98 (lv_at hl 1 rfl) ?_
            refine lv_iload S.1 S.2.1 d_D_go_100 (lv_at hl 0 rfl) ?_
            refine lv_iload_n S.1 S.2.1 d_D_go_102 rfl (lv_at hl 5 rfl) ?_
            refine uVv (n := 3) (b := 0) (As := [.ref (ad (129 + 6 * j)), .int (nI p_6), .int t]) (rest := []) S hK hN hP hS (c_D_startCue hJ w π M hM n hB j p_6 hj (by omega) t) ⟨hU, t3_109, t3_106, t1_1, by decide +kernel, by decide, by decide⟩ t3_108 tp_12 (by decide) xg_desk rfl rfl rfl hl.1 rfl (Nat.le_of_ble_eq_true rfl) d_D_go_103 ⟨Nat.le_of_ble_eq_true rfl, Nat.le_of_ble_eq_true rfl⟩ (fun u H locs hp hP hS => ?_)
            obtain rfl := hp
            refine lv_aload S.1 S.2.1 d_D_go_106 (lv_at hl 1 rfl) ?_
            refine ur_getN (k := (129 + 6 * j)) (v := .int ((vStart w π j p_6 t M) 27 j 0)) S hK hP (kb_Y hj) (xg_ply hj) rfl (fun w h => hU w (in_Y w h)) 7 (by decide) (hN _ t1_132) rfl d_D_go_108 ?_
            exact tIret S hr hlk ((vStart w π j p_6 t M), π) (by decide) (by decide) hP hS (⟨⟨c_a, c_b⟩, _, by rw [nI_clamp (by omega), ← hw]; unfold goQ; rw [if_neg c_k, hX_5], by rw [nI_clamp (by omega), ← hw], by rw [nI_clamp (by omega), ← hw]⟩) d_D_go_111
          · exact absurd c_8 (nI_nm1 (by omega))
    · have c_b := pI_no c_b
      exact tRaise (sx := 185) (tx := "no such playback or tick") S hlf hTK hx0 hlk hP0 (v, π) hP hS rfl (fun w hw => hU w (tBase_in w hw)) (fun w hw => hU w (tIA_in w hw)) (by decide) Bundle.six_0 Bundle.six_1 Bundle.six_2 Bundle.six_5 (hU _ tcl_82) (by decide) hl.1 d_D_go_15 d_D_go_18 d_D_go_19 d_D_go_21 d_D_go_24 (by decide) (by decide) (by decide) (by decide) (by decide) (by decide) (Or.inl ⟨fun z => c_b z.2, rfl, rfl⟩)

set_option maxRecDepth 100000 in
set_option maxHeartbeats 4000000 in
theorem c_D_out {l : Launch} (hlf : l.flags = pinnedFlags ++ [noTraceFlag]) {D : va_G} {ca : Nat → ClassId} {ad : Nat → Nat} (hJ : uJ 165 ad) (v : Nat → Nat → Nat → Int32) (π : Nat → Nat) (M : Nat) (hM : M = 64) (n : Nat) (hB : xBk v π n) (Q6 : Nat) (h6 : Q6 = 6) (T1 : Nat) (hT1 : T1 = 1000) (x1 t : Int32) : tMi l y_D_out b_D_out 4 (some .int) 6 139 1 6 D clsAll (tysAll ca) 165 ad (xG ca ad) (v, π) [.ref (ad 0), .int x1, .int t] (fun r u => (isCh x1 ∧ xTick v t) ∧ u = ((vTell v π n t M Q6 T1), π) ∧ r = outA (vTell v π n t M Q6 T1) x1.toNatClampNeg Q6) (fun X u => ¬ (isCh x1 ∧ xTick v t) ∧ u = (v, π) ∧ X = tIA) := by
  refine tStart (by decide) (Nat.le_of_ble_eq_true rfl) ?_
  intro p e s m below meth c ls S hr hlk hK hN hP hTK hx0 hl
  have hP0 := hP
  have hU : ∀ w ∈ uWS, w ∈ (Cond.code y_D_out b_D_out 4 (some .int) :: uWS) := fun w h => List.mem_cons_of_mem _ h
  have hS : va_S (uA 165 ad s.heap.size) s.heap s.heap [] := va_S.rf
  have hl : lv_has ls 4 [(0, .ref (ad 0)), (1, .int x1), (2, .int t)] := hl
  have hn40 : n ≤ 40 := hB.2.1
  refine lv_iload_n S.1 S.2.1 d_D_out_0 rfl (lv_at hl 1 rfl) ?_
  refine uSi (n := 1) (As := [.int x1]) (rest := []) S hK hN hP hS (c_D_isChannel hJ v π x1) ⟨hU, t1_186, t1_184, t1_1, by decide +kernel, by decide, by decide⟩ t1_185 rfl hl.1 rfl (Nat.le_of_ble_eq_true rfl) d_D_out_1 ⟨Nat.le_of_ble_eq_true rfl, Nat.le_of_ble_eq_true rfl⟩ (fun r u H locs hp hP hS => ?_)
  obtain ⟨rfl, rfl⟩ := hp
  refine lv_if_eq (tgt := 15) S.1 S.2.1 d_D_out_4 (by decide) (fun c_a => ?_) (fun c_a => ?_)
  · have c_a := pI_no c_a
    exact tRaise (sx := 211) (tx := "no such channel or tick") S hlf hTK hx0 hlk hP0 (v, π) hP hS rfl (fun w hw => hU w (tBase_in w hw)) (fun w hw => hU w (tIA_in w hw)) (by decide) Bundle.six_0 Bundle.six_1 Bundle.six_2 Bundle.six_5 (hU _ tcl_82) (by decide) hl.1 d_D_out_15 d_D_out_18 d_D_out_19 d_D_out_21 d_D_out_24 (by decide) (by decide) (by decide) (by decide) (by decide) (by decide) (⟨fun z => c_a z.1, rfl, rfl⟩)
  · have c_a := pI_yes c_a
    refine lv_aload_n S.1 S.2.1 d_D_out_7 rfl (lv_at hl 0 rfl) ?_
    refine lv_iload_n S.1 S.2.1 d_D_out_8 rfl (lv_at hl 2 rfl) ?_
    refine uVi (n := 1) (b := 0) (As := [.int t]) (rest := []) S hK hN hP hS (c_D_isTellable hJ v π t) ⟨hU, t3_90, t3_87, t1_1, by decide +kernel, by decide, by decide⟩ t3_89 tp_8 (by decide) xg_desk rfl rfl rfl hl.1 rfl (Nat.le_of_ble_eq_true rfl) d_D_out_9 ⟨Nat.le_of_ble_eq_true rfl, Nat.le_of_ble_eq_true rfl⟩ (fun r u H locs hp hP hS => ?_)
    obtain ⟨rfl, rfl⟩ := hp
    refine lv_if_ne (tgt := 25) S.1 S.2.1 d_D_out_12 (by decide) (fun c_b => ?_) (fun c_b => ?_)
    · have c_b := pI_yes c_b
      obtain ⟨ch, hch, ech⟩ := isCh_nat c_a
      subst ech
      refine lv_aload_n S.1 S.2.1 d_D_out_25 rfl (lv_at hl 0 rfl) ?_
      refine lv_iload_n S.1 S.2.1 d_D_out_26 rfl (lv_at hl 2 rfl) ?_
      refine uVv (n := 1) (b := 0) (As := [.int t]) (rest := []) S hK hN hP hS (c_D_tell hJ v π M hM n hB Q6 h6 T1 hT1 t) ⟨hU, t3_96, t3_93, t1_1, by decide +kernel, by decide, by decide⟩ t3_95 tp_9 (by decide) xg_desk rfl rfl rfl hl.1 rfl (Nat.le_of_ble_eq_true rfl) d_D_out_27 ⟨Nat.le_of_ble_eq_true rfl, Nat.le_of_ble_eq_true rfl⟩ (fun u H locs hp hP hS => ?_)
      obtain rfl := hp
      have hB1 := xBk_tell (t := t) (M := M) (Q6 := Q6) (T1 := T1) hB
      have hw0 : up3 (tl π n t M Q6 T1 v) 5 0 0 t = (vTell v π n t M Q6 T1) := rfl
      rw [hw0] at hP
      obtain ⟨w, hw⟩ : ∃ z, z = (vTell v π n t M Q6 T1) := ⟨_, rfl⟩
      rw [← hw] at hP hB1
      have hB := hB1
      refine lv_aload_n S.1 S.2.1 d_D_out_30 rfl (lv_at hl 0 rfl) ?_
      refine ur_get (k := 0) (v := .ref (ad 2)) S hK hP (by decide) xg_desk rfl (fun w h => hU w (in_D w h)) 2 (by decide) (hU _ t1_160) rfl d_D_out_31 ?_
      refine lv_aload_n S.1 S.2.1 d_D_out_34 rfl (lv_at hl 0 rfl) ?_
      refine ur_get (k := 0) (v := .ref (ad 87)) S hK hP (by decide) xg_desk rfl (fun w h => hU w (in_D w h)) 1 (by decide) (hU _ t1_159) rfl d_D_out_35 ?_
      refine lv_iload_n S.1 S.2.1 d_D_out_38 rfl (lv_at hl 1 rfl) ?_
      refine uVi (n := 1) (b := (7 + 2 * 40)) (As := [.int (nI ch)]) (rest := [.ref (ad 2)]) S hK hN hP hS (c_V_valueAt hJ w π 40 ch (by decide) hch) ⟨hU, t2_162, t3_128, t1_2, by decide +kernel, by decide, by decide⟩ t2_160 t2_161 (kb_V (by decide)) (xg_row (by decide)) rfl rfl rfl hl.1 rfl (Nat.le_of_ble_eq_true rfl) d_D_out_39 ⟨Nat.le_of_ble_eq_true rfl, Nat.le_of_ble_eq_true rfl⟩ (fun r u H locs hp hP hS => ?_)
      obtain ⟨rfl, rfl⟩ := hp
      refine lv_iload_n S.1 S.2.1 d_D_out_42 rfl (lv_at hl 1 rfl) ?_
      refine uVi (n := 2) (b := 2) (As := [.int (w 17 40 ch), .int (nI ch)]) (rest := []) S hK hN hP hS (c_P_levelOf hJ w π (w 17 40 ch) ch hch) ⟨hU, t3_49, t3_46, t1_4, by decide +kernel, by decide, by decide⟩ t3_47 t3_48 (by decide) xg_pal rfl rfl rfl hl.1 rfl (Nat.le_of_ble_eq_true rfl) d_D_out_43 ⟨Nat.le_of_ble_eq_true rfl, Nat.le_of_ble_eq_true rfl⟩ (fun r u H locs hp hP hS => ?_)
      obtain ⟨rfl, rfl⟩ := hp
      refine lv_istore_n (lv' := [(3, .int (vLev w (w 17 40 ch) ch)), (0, .ref (ad 0)), (1, .int (nI ch)), (2, .int t)]) S.1 S.2.1 d_D_out_46 rfl hl (by decide) rfl (fun ls hl => ?_)
      refine lv_iload_n S.1 S.2.1 d_D_out_47 rfl (lv_at hl 0 rfl) ?_
      refine lv_iconst (v := (-1)) S.1 S.2.1 d_D_out_48 (by decide) ?_
      refine lv_icmp_eq (tgt := 54) S.1 S.2.1 d_D_out_49 (by decide) (fun c_o => ?_) (fun c_o => ?_)
      · refine lv_aload_n S.1 S.2.1 d_D_out_54 rfl (lv_at hl 1 rfl) ?_
        refine ur_get (k := 0) (v := .ref (ad 1)) S hK hP (by decide) xg_desk rfl (fun w h => hU w (in_D w h)) 0 (by decide) (hU _ t1_158) rfl d_D_out_55 ?_
        refine lv_iload_n S.1 S.2.1 d_D_out_58 rfl (lv_at hl 2 rfl) ?_
        refine ur_zald (k := 1) (f := (w 0 0)) (j := ch) S hK hP (by decide) 1 xg_att rfl rfl hch (by decide) d_D_out_59 ?_
        refine lv_if_eq (tgt := 71) S.1 S.2.1 d_D_out_60 (by decide) (fun c_z => ?_) (fun c_z => ?_)
        · refine lv_aload_n S.1 S.2.1 d_D_out_71 rfl (lv_at hl 1 rfl) ?_
          refine lv_iload_n S.1 S.2.1 d_D_out_72 rfl (lv_at hl 2 rfl) ?_
          refine uVi (n := 1) (b := 0) (As := [.int (nI ch)]) (rest := []) S hK hN hP hS (c_D_greatestLevel hJ w π Q6 h6 ch hch) ⟨hU, t3_141, t3_138, t1_1, by decide +kernel, by decide, by decide⟩ t3_140 tp_14 (by decide) xg_desk rfl rfl rfl hl.1 rfl (Nat.le_of_ble_eq_true rfl) d_D_out_73 ⟨Nat.le_of_ble_eq_true rfl, Nat.le_of_ble_eq_true rfl⟩ (fun r u H locs hp hP hS => ?_)
          obtain ⟨rfl, rfl⟩ := hp
          exact tIret S hr hlk (w, π) (by decide) (by decide) hP hS (⟨⟨c_a, c_b⟩, by rw [hw], by rw [nI_clamp (by omega), ← hw]; unfold outA; rw [if_pos c_o, if_pos c_z]⟩) d_D_out_76
        · refine lv_aload_n S.1 S.2.1 d_D_out_63 rfl (lv_at hl 1 rfl) ?_
          refine lv_iload_n S.1 S.2.1 d_D_out_64 rfl (lv_at hl 2 rfl) ?_
          refine uVi (n := 1) (b := 0) (As := [.int (nI ch)]) (rest := []) S hK hN hP hS (c_D_latestLevel hJ w π Q6 h6 ch hch) ⟨hU, t3_132, t3_129, t1_1, by decide +kernel, by decide, by decide⟩ t3_131 tp_13 (by decide) xg_desk rfl rfl rfl hl.1 rfl (Nat.le_of_ble_eq_true rfl) d_D_out_65 ⟨Nat.le_of_ble_eq_true rfl, Nat.le_of_ble_eq_true rfl⟩ (fun r u H locs hp hP hS => ?_)
          obtain ⟨rfl, rfl⟩ := hp
          refine lv_goto (tgt := 76) S.1 S.2.1 d_D_out_68 (by decide) ?_
          exact tIret S hr hlk (w, π) (by decide) (by decide) hP hS (⟨⟨c_a, c_b⟩, by rw [hw], by rw [nI_clamp (by omega), ← hw]; unfold outA; rw [if_pos c_o, if_neg c_z]⟩) d_D_out_76
      · refine lv_iload_n S.1 S.2.1 d_D_out_52 rfl (lv_at hl 0 rfl) ?_
        exact tIret S hr hlk (w, π) (by decide) (by decide) hP hS (⟨⟨c_a, c_b⟩, by rw [hw], by rw [nI_clamp (by omega), ← hw]; unfold outA; rw [if_neg c_o]⟩) d_D_out_53
    · have c_b := pI_no c_b
      exact tRaise (sx := 211) (tx := "no such channel or tick") S hlf hTK hx0 hlk hP0 (v, π) hP hS rfl (fun w hw => hU w (tBase_in w hw)) (fun w hw => hU w (tIA_in w hw)) (by decide) Bundle.six_0 Bundle.six_1 Bundle.six_2 Bundle.six_5 (hU _ tcl_82) (by decide) hl.1 d_D_out_15 d_D_out_18 d_D_out_19 d_D_out_21 d_D_out_24 (by decide) (by decide) (by decide) (by decide) (by decide) (by decide) (⟨fun z => c_b z.2, rfl, rfl⟩)

set_option maxRecDepth 100000 in
set_option maxHeartbeats 4000000 in
theorem c_D_playback {l : Launch} (hlf : l.flags = pinnedFlags ++ [noTraceFlag]) {D : va_G} {ca : Nat → ClassId} {ad : Nat → Nat} (hJ : uJ 165 ad) (v : Nat → Nat → Nat → Int32) (π : Nat → Nat) (x1 x2 : Int32) : tMi l y_D_playback b_D_playback 4 (some .int) 6 82 1 6 D clsAll (tysAll ca) 165 ad (xG ca ad) (v, π) [.ref (ad 0), .int x1, .int x2] (fun r u => u = (v, π) ∧ xPbok x1 x2 ∧ r = xPbv v x1.toNatClampNeg x2) (fun X u => u = (v, π) ∧ ¬ xPbok x1 x2 ∧ X = tIO) := by
  refine tStart (by decide) (Nat.le_of_ble_eq_true rfl) ?_
  intro p e s m below meth c ls S hr hlk hK hN hP hTK hx0 hl
  have hP0 := hP
  have hU : ∀ w ∈ uWS, w ∈ (Cond.code y_D_playback b_D_playback 4 (some .int) :: uWS) := fun w h => List.mem_cons_of_mem _ h
  have hS : va_S (uA 165 ad s.heap.size) s.heap s.heap [] := va_S.rf
  have hl : lv_has ls 4 [(0, .ref (ad 0)), (1, .int x1), (2, .int x2)] := hl
  refine lv_iload_n S.1 S.2.1 d_D_playback_0 rfl (lv_at hl 1 rfl) ?_
  refine uSi (n := 1) (As := [.int x1]) (rest := []) S hK hN hP hS (c_D_isPlayback hJ v π x1) ⟨hU, t2_22, t2_20, t1_1, by decide +kernel, by decide, by decide⟩ t2_21 rfl hl.1 rfl (Nat.le_of_ble_eq_true rfl) d_D_playback_1 ⟨Nat.le_of_ble_eq_true rfl, Nat.le_of_ble_eq_true rfl⟩ (fun r u H locs hp hP hS => ?_)
  obtain ⟨rfl, rfl⟩ := hp
  refine lv_if_ne (tgt := 17) S.1 S.2.1 d_D_playback_4 (by decide) (fun c_a => ?_) (fun c_a => ?_)
  · have c_a := pI_yes c_a
    obtain ⟨j, hj, ej⟩ := isPb_nat c_a
    subst ej
    refine lv_aload_n S.1 S.2.1 d_D_playback_17 rfl (lv_at hl 0 rfl) ?_
    refine ur_get (k := 0) (v := .ref (ad 6)) S hK hP (by decide) xg_desk rfl (fun w h => hU w (in_D w h)) 4 (by decide) (hU _ t1_162) rfl d_D_playback_18 ?_
    refine lv_iload_n S.1 S.2.1 d_D_playback_21 rfl (lv_at hl 1 rfl) ?_
    refine ur_aald (k := 6) (q := ad (129 + 6 * j)) (j := j) S hK hP (by decide) 3 xg_plys rfl rfl hj (by decide) rfl d_D_playback_22 ?_
    refine lv_astore_n (lv' := [(3, .ref (ad (129 + 6 * j))), (0, .ref (ad 0)), (1, .int (nI j)), (2, .int x2)]) S.1 S.2.1 d_D_playback_23 rfl hl (by decide) rfl (fun ls hl => ?_)
    refine lv_iload_n S.1 S.2.1 d_D_playback_24 rfl (lv_at hl 3 rfl) ?_
    rcases pk_ix x2 (n := 5) (by decide) with c_x | c_x | ⟨jx, hjx, e_x⟩
    · refine lv_tableOut (tgt := 85) S.1 S.2.1 d_D_playback_25 (Or.inl (by rw [Int32.lt_iff_toInt_lt] at c_x; exact c_x)) (by decide) ?_
      refine lv_iload_n S.1 S.2.1 d_D_playback_85 rfl (lv_at hl 3 rfl) ?_
      refine lv_bipush (v := 8) S.1 S.2.1 d_D_playback_86 (by decide) ?_
      refine lv_icmp_lt (tgt := 97) S.1 S.2.1 d_D_playback_88 (by decide) (fun c_e => ?_) (fun c_e => ?_)
      · exact tRaise (sx := 227) (tx := "no such detail") S hlf hTK hx0 hlk hP0 (v, π) hP hS rfl (fun w hw => hU w (tBase_in w hw)) (fun w hw => hU w (tIO_in w hw)) (by decide) Bundle.six_0 Bundle.six_1 Bundle.six_2 Bundle.six_5 (hU _ tcl_143) (by decide) hl.1 d_D_playback_97 d_D_playback_100 d_D_playback_101 d_D_playback_103 d_D_playback_106 (by decide) (by decide) (by decide) (by decide) (by decide) (by decide) (⟨rfl, fun z => z.2.elim (fun y => y.1 c_x) (fun y => y.1 c_e), rfl⟩)
      · refine lv_iload_n S.1 S.2.1 d_D_playback_91 rfl (lv_at hl 3 rfl) ?_
        refine lv_bipush (v := 72) S.1 S.2.1 d_D_playback_92 (by decide) ?_
        refine lv_icmp_lt (tgt := 107) S.1 S.2.1 d_D_playback_94 (by decide) (fun c_t => ?_) (fun c_t => ?_)
        · refine lv_aload_n S.1 S.2.1 d_D_playback_107 rfl (lv_at hl 0 rfl) ?_
          refine lv_iload_n S.1 S.2.1 d_D_playback_108 rfl (lv_at hl 3 rfl) ?_
          refine lv_bipush (v := 8) S.1 S.2.1 d_D_playback_109 (by decide) ?_
          refine lv_isub S.1 S.2.1 d_D_playback_111 ?_
          obtain ⟨chw, hchw, ehw⟩ : ∃ k : Nat, k < 64 ∧ x2 = nI (k + 8) := pb_ch c_e c_t
          rw [show x2 - 8 = nI chw from by rw [ehw, show (8 : Int32) = nI 8 from rfl, pk_sub (by omega), Nat.add_sub_cancel]]
          refine lv_aload_n S.1 S.2.1 d_D_playback_112 rfl (lv_at hl 1 rfl) ?_
          refine ur_get (k := 0) (v := .int (v 5 0 0)) S hK hP (by decide) xg_desk rfl (fun w h => hU w (in_D w h)) 5 (by decide) (hU _ t1_163) rfl d_D_playback_113 ?_
          refine uVi (n := 2) (b := (129 + 6 * j)) (As := [.int (nI chw), .int (v 5 0 0)]) (rest := []) S hK hN hP hS (c_Y_levelAt hJ v π j chw hj (by omega) (v 5 0 0)) ⟨hU, t3_117, t3_137, t1_7, by decide +kernel, by decide, by decide⟩ t3_115 t3_116 (kb_Y hj) (xg_ply hj) rfl rfl rfl hl.1 rfl (Nat.le_of_ble_eq_true rfl) d_D_playback_116 ⟨Nat.le_of_ble_eq_true rfl, Nat.le_of_ble_eq_true rfl⟩ (fun r u H locs hp hP hS => ?_)
          obtain ⟨rfl, rfl⟩ := hp
          exact tIret S hr hlk (v, π) (by decide) (by decide) hP hS (⟨rfl, ⟨c_a, Or.inr ⟨c_e, c_t⟩⟩, by rw [nI_clamp (by omega)]; unfold xPbv; rw [if_neg (fun h => by subst h; exact absurd c_x (by decide)), if_neg (fun h => by subst h; exact absurd c_x (by decide)), if_neg (fun h => by subst h; exact absurd c_x (by decide)), if_neg (fun h => by subst h; exact absurd c_x (by decide)), if_neg (fun h => by subst h; exact absurd c_x (by decide)), show x2.toNatClampNeg - 8 = chw from by rw [ehw, nI_clamp (by omega)]; omega]⟩) d_D_playback_119
        · exact tRaise (sx := 227) (tx := "no such detail") S hlf hTK hx0 hlk hP0 (v, π) hP hS rfl (fun w hw => hU w (tBase_in w hw)) (fun w hw => hU w (tIO_in w hw)) (by decide) Bundle.six_0 Bundle.six_1 Bundle.six_2 Bundle.six_5 (hU _ tcl_143) (by decide) hl.1 d_D_playback_97 d_D_playback_100 d_D_playback_101 d_D_playback_103 d_D_playback_106 (by decide) (by decide) (by decide) (by decide) (by decide) (by decide) (⟨rfl, fun z => z.2.elim (fun y => y.1 c_x) (fun y => c_t y.2), rfl⟩)
    · refine lv_tableOut (tgt := 85) S.1 S.2.1 d_D_playback_25 (Or.inr (by rw [Int32.le_iff_toInt_le, nI_toInt (by decide)] at c_x; omega)) (by decide) ?_
      refine lv_iload_n S.1 S.2.1 d_D_playback_85 rfl (lv_at hl 3 rfl) ?_
      refine lv_bipush (v := 8) S.1 S.2.1 d_D_playback_86 (by decide) ?_
      refine lv_icmp_lt (tgt := 97) S.1 S.2.1 d_D_playback_88 (by decide) (fun c_e => ?_) (fun c_e => ?_)
      · exact tRaise (sx := 227) (tx := "no such detail") S hlf hTK hx0 hlk hP0 (v, π) hP hS rfl (fun w hw => hU w (tBase_in w hw)) (fun w hw => hU w (tIO_in w hw)) (by decide) Bundle.six_0 Bundle.six_1 Bundle.six_2 Bundle.six_5 (hU _ tcl_143) (by decide) hl.1 d_D_playback_97 d_D_playback_100 d_D_playback_101 d_D_playback_103 d_D_playback_106 (by decide) (by decide) (by decide) (by decide) (by decide) (by decide) (⟨rfl, fun z => z.2.elim (fun y => Int32.lt_irrefl (Int32.lt_of_lt_of_le y.2 c_x)) (fun y => y.1 c_e), rfl⟩)
      · refine lv_iload_n S.1 S.2.1 d_D_playback_91 rfl (lv_at hl 3 rfl) ?_
        refine lv_bipush (v := 72) S.1 S.2.1 d_D_playback_92 (by decide) ?_
        refine lv_icmp_lt (tgt := 107) S.1 S.2.1 d_D_playback_94 (by decide) (fun c_t => ?_) (fun c_t => ?_)
        · refine lv_aload_n S.1 S.2.1 d_D_playback_107 rfl (lv_at hl 0 rfl) ?_
          refine lv_iload_n S.1 S.2.1 d_D_playback_108 rfl (lv_at hl 3 rfl) ?_
          refine lv_bipush (v := 8) S.1 S.2.1 d_D_playback_109 (by decide) ?_
          refine lv_isub S.1 S.2.1 d_D_playback_111 ?_
          obtain ⟨chw, hchw, ehw⟩ : ∃ k : Nat, k < 64 ∧ x2 = nI (k + 8) := pb_ch c_e c_t
          rw [show x2 - 8 = nI chw from by rw [ehw, show (8 : Int32) = nI 8 from rfl, pk_sub (by omega), Nat.add_sub_cancel]]
          refine lv_aload_n S.1 S.2.1 d_D_playback_112 rfl (lv_at hl 1 rfl) ?_
          refine ur_get (k := 0) (v := .int (v 5 0 0)) S hK hP (by decide) xg_desk rfl (fun w h => hU w (in_D w h)) 5 (by decide) (hU _ t1_163) rfl d_D_playback_113 ?_
          refine uVi (n := 2) (b := (129 + 6 * j)) (As := [.int (nI chw), .int (v 5 0 0)]) (rest := []) S hK hN hP hS (c_Y_levelAt hJ v π j chw hj (by omega) (v 5 0 0)) ⟨hU, t3_117, t3_137, t1_7, by decide +kernel, by decide, by decide⟩ t3_115 t3_116 (kb_Y hj) (xg_ply hj) rfl rfl rfl hl.1 rfl (Nat.le_of_ble_eq_true rfl) d_D_playback_116 ⟨Nat.le_of_ble_eq_true rfl, Nat.le_of_ble_eq_true rfl⟩ (fun r u H locs hp hP hS => ?_)
          obtain ⟨rfl, rfl⟩ := hp
          exact tIret S hr hlk (v, π) (by decide) (by decide) hP hS (⟨rfl, ⟨c_a, Or.inr ⟨c_e, c_t⟩⟩, by rw [nI_clamp (by omega)]; unfold xPbv; rw [if_neg (fun h => by subst h; exact absurd c_x (by decide)), if_neg (fun h => by subst h; exact absurd c_x (by decide)), if_neg (fun h => by subst h; exact absurd c_x (by decide)), if_neg (fun h => by subst h; exact absurd c_x (by decide)), if_neg (fun h => by subst h; exact absurd c_x (by decide)), show x2.toNatClampNeg - 8 = chw from by rw [ehw, nI_clamp (by omega)]; omega]⟩) d_D_playback_119
        · exact tRaise (sx := 227) (tx := "no such detail") S hlf hTK hx0 hlk hP0 (v, π) hP hS rfl (fun w hw => hU w (tBase_in w hw)) (fun w hw => hU w (tIO_in w hw)) (by decide) Bundle.six_0 Bundle.six_1 Bundle.six_2 Bundle.six_5 (hU _ tcl_143) (by decide) hl.1 d_D_playback_97 d_D_playback_100 d_D_playback_101 d_D_playback_103 d_D_playback_106 (by decide) (by decide) (by decide) (by decide) (by decide) (by decide) (⟨rfl, fun z => z.2.elim (fun y => Int32.lt_irrefl (Int32.lt_of_lt_of_le y.2 c_x)) (fun y => c_t y.2), rfl⟩)
    · subst e_x
      rcases (by omega : jx = 0 ∨ jx = 1 ∨ jx = 2 ∨ jx = 3 ∨ jx = 4) with rfl | rfl | rfl | rfl | rfl
      · refine lv_tableIn (off := 35) (tgt := 60) S.1 S.2.1 d_D_playback_25 (by decide) (by decide) rfl (by decide) ?_
        refine lv_aload_n S.1 S.2.1 d_D_playback_60 rfl (lv_at hl 0 rfl) ?_
        refine ur_getN (k := (129 + 6 * j)) (v := .int (v 25 j 0)) S hK hP (kb_Y hj) (xg_ply hj) rfl (fun w h => hU w (in_Y w h)) 5 (by decide) (hN _ t1_128) rfl d_D_playback_61 ?_
        exact tIret S hr hlk (v, π) (by decide) (by decide) hP hS (⟨rfl, ⟨c_a, Or.inl ⟨by decide, by decide⟩⟩, by rw [nI_clamp (by omega)]; rfl⟩) d_D_playback_64
      · refine lv_tableIn (off := 40) (tgt := 65) S.1 S.2.1 d_D_playback_25 (by decide) (by decide) rfl (by decide) ?_
        refine lv_aload_n S.1 S.2.1 d_D_playback_65 rfl (lv_at hl 0 rfl) ?_
        refine ur_getN (k := (129 + 6 * j)) (v := .int (v 27 j 0)) S hK hP (kb_Y hj) (xg_ply hj) rfl (fun w h => hU w (in_Y w h)) 7 (by decide) (hN _ t1_132) rfl d_D_playback_66 ?_
        exact tIret S hr hlk (v, π) (by decide) (by decide) hP hS (⟨rfl, ⟨c_a, Or.inl ⟨by decide, by decide⟩⟩, by rw [nI_clamp (by omega)]; rfl⟩) d_D_playback_69
      · refine lv_tableIn (off := 45) (tgt := 70) S.1 S.2.1 d_D_playback_25 (by decide) (by decide) rfl (by decide) ?_
        refine lv_aload_n S.1 S.2.1 d_D_playback_70 rfl (lv_at hl 0 rfl) ?_
        refine ur_getN (k := (129 + 6 * j)) (v := .int (v 26 j 0)) S hK hP (kb_Y hj) (xg_ply hj) rfl (fun w h => hU w (in_Y w h)) 6 (by decide) (hN _ t1_130) rfl d_D_playback_71 ?_
        exact tIret S hr hlk (v, π) (by decide) (by decide) hP hS (⟨rfl, ⟨c_a, Or.inl ⟨by decide, by decide⟩⟩, by rw [nI_clamp (by omega)]; rfl⟩) d_D_playback_74
      · refine lv_tableIn (off := 50) (tgt := 75) S.1 S.2.1 d_D_playback_25 (by decide) (by decide) rfl (by decide) ?_
        refine lv_aload_n S.1 S.2.1 d_D_playback_75 rfl (lv_at hl 0 rfl) ?_
        refine ur_getN (k := (129 + 6 * j)) (v := .int (v 28 j 0)) S hK hP (kb_Y hj) (xg_ply hj) rfl (fun w h => hU w (in_Y w h)) 8 (by decide) (hN _ t1_134) rfl d_D_playback_76 ?_
        exact tIret S hr hlk (v, π) (by decide) (by decide) hP hS (⟨rfl, ⟨c_a, Or.inl ⟨by decide, by decide⟩⟩, by rw [nI_clamp (by omega)]; rfl⟩) d_D_playback_79
      · refine lv_tableIn (off := 55) (tgt := 80) S.1 S.2.1 d_D_playback_25 (by decide) (by decide) rfl (by decide) ?_
        refine lv_aload_n S.1 S.2.1 d_D_playback_80 rfl (lv_at hl 0 rfl) ?_
        refine ur_getN (k := (129 + 6 * j)) (v := .int (v 29 j 0)) S hK hP (kb_Y hj) (xg_ply hj) rfl (fun w h => hU w (in_Y w h)) 9 (by decide) (hN _ t1_136) rfl d_D_playback_81 ?_
        exact tIret S hr hlk (v, π) (by decide) (by decide) hP hS (⟨rfl, ⟨c_a, Or.inl ⟨by decide, by decide⟩⟩, by rw [nI_clamp (by omega)]; rfl⟩) d_D_playback_84
  · have c_a := pI_no c_a
    exact tRaise (sx := 222) (tx := "no such playback") S hlf hTK hx0 hlk hP0 (v, π) hP hS rfl (fun w hw => hU w (tBase_in w hw)) (fun w hw => hU w (tIO_in w hw)) (by decide) Bundle.six_0 Bundle.six_1 Bundle.six_2 Bundle.six_5 (hU _ tcl_143) (by decide) hl.1 d_D_playback_7 d_D_playback_10 d_D_playback_11 d_D_playback_13 d_D_playback_16 (by decide) (by decide) (by decide) (by decide) (by decide) (by decide) (⟨rfl, fun z => c_a z.1, rfl⟩)
