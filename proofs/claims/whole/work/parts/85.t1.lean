/-! The desk: methods that return or throw (printed by wip/gen/gen_t1.py) -/
set_option maxRecDepth 100000 in
set_option maxHeartbeats 4000000 in
theorem c_D_placeOrThrow {l : Launch} (hlf : l.flags = pinnedFlags ++ [noTraceFlag]) {D : va_G} {ca : Nat → ClassId} {ad : Nat → Nat} (hJ : uJ 165 ad) (v : Nat → Nat → Nat → Int32) (π : Nat → Nat) (n : Nat) (hB : xBk v π n) (a b : Int32) : tMi l y_D_placeOrThrow b_D_placeOrThrow 4 (some .int) 6 82 1 6 D clsAll (tysAll ca) 165 ad (xG ca ad) (v, π) [.ref (ad 0), .int a, .int b] (fun r u => u = (v, π) ∧ ∃ q, fndO v π n a b = some q ∧ r = nI q) (fun X u => u = (v, π) ∧ fndO v π n a b = none ∧ X = tNS) := by
  refine tStart (by decide) (Nat.le_of_ble_eq_true rfl) ?_
  intro p e s m below meth c ls S hr hlk hK hN hP hTK hx0 hl
  have hP0 := hP
  have hU : ∀ w ∈ uWS, w ∈ (Cond.code y_D_placeOrThrow b_D_placeOrThrow 4 (some .int) :: uWS) := fun w h => List.mem_cons_of_mem _ h
  have hS : va_S (uA 165 ad s.heap.size) s.heap s.heap [] := va_S.rf
  have hl : lv_has ls 4 [(0, .ref (ad 0)), (1, .int a), (2, .int b)] := hl
  have hn40 : n ≤ 40 := hB.2.1
  refine lv_aload_n S.1 S.2.1 d_D_placeOrThrow_0 rfl (lv_at hl 0 rfl) ?_
  refine ur_get (k := 0) (v := .ref (ad 4)) S hK hP (by decide) xg_desk rfl (fun w h => hU w (in_D w h)) 3 (by decide) (hU _ t1_161) rfl d_D_placeOrThrow_1 ?_
  refine lv_iload_n S.1 S.2.1 d_D_placeOrThrow_4 rfl (lv_at hl 1 rfl) ?_
  refine lv_iload_n S.1 S.2.1 d_D_placeOrThrow_5 rfl (lv_at hl 2 rfl) ?_
  refine uVi (n := 2) (b := 4) (As := [.int a, .int b]) (rest := []) S hK hN hP hS (c_B_find hJ v π n hB a b) ⟨hU, t1_232, t1_229, t1_5, by decide +kernel, by decide, by decide⟩ t1_230 t1_231 (by decide) xg_book rfl rfl rfl hl.1 rfl (Nat.le_of_ble_eq_true rfl) d_D_placeOrThrow_6 ⟨Nat.le_of_ble_eq_true rfl, Nat.le_of_ble_eq_true rfl⟩ (fun r u H locs hp hP hS => ?_)
  obtain ⟨rfl, rfl⟩ := hp
  rcases hX_1 : fndO v π n a b with _ | p_2
  · refine lv_istore_n (lv' := [(3, .int (-1)), (0, .ref (ad 0)), (1, .int a), (2, .int b)]) S.1 S.2.1 d_D_placeOrThrow_9 rfl hl (by decide) rfl (fun ls hl => ?_)
    refine lv_iload_n S.1 S.2.1 d_D_placeOrThrow_10 rfl (lv_at hl 0 rfl) ?_
    refine lv_iconst (v := (-1)) S.1 S.2.1 d_D_placeOrThrow_11 (by decide) ?_
    refine lv_icmp_ne (tgt := 25) S.1 S.2.1 d_D_placeOrThrow_12 (by decide) (fun c_3 => ?_) (fun c_3 => ?_)
    · exact absurd rfl c_3
    · exact tRaise (sx := 239) (tx := "no such cue") S hlf hTK hx0 hlk hP0 (v, π) hP hS rfl (fun w hw => hU w (tBase_in w hw)) (fun w hw => hU w (tNS_in w hw)) (by decide) s13_0 s13_1 s13_2 s13_5 (hU _ tcl_199) (by decide) hl.1 d_D_placeOrThrow_15 d_D_placeOrThrow_18 d_D_placeOrThrow_19 d_D_placeOrThrow_21 d_D_placeOrThrow_24 (by decide) (by decide) (by decide) (by decide) (by decide) (by decide) (⟨rfl, (by first | assumption | rfl), rfl⟩)
  · have hp_2 : p_2 < n := fndO_lt _ hX_1
    refine lv_istore_n (lv' := [(3, .int (nI p_2)), (0, .ref (ad 0)), (1, .int a), (2, .int b)]) S.1 S.2.1 d_D_placeOrThrow_9 rfl hl (by decide) rfl (fun ls hl => ?_)
    refine lv_iload_n S.1 S.2.1 d_D_placeOrThrow_10 rfl (lv_at hl 0 rfl) ?_
    refine lv_iconst (v := (-1)) S.1 S.2.1 d_D_placeOrThrow_11 (by decide) ?_
    refine lv_icmp_ne (tgt := 25) S.1 S.2.1 d_D_placeOrThrow_12 (by decide) (fun c_4 => ?_) (fun c_4 => ?_)
    · refine lv_iload_n S.1 S.2.1 d_D_placeOrThrow_25 rfl (lv_at hl 0 rfl) ?_
      exact tIret S hr hlk (v, π) (by decide) (by decide) hP hS (⟨rfl, _, (by first | assumption | rfl), rfl⟩) d_D_placeOrThrow_26
    · exact absurd c_4 (nI_nm1 (by omega))

set_option maxRecDepth 100000 in
set_option maxHeartbeats 4000000 in
theorem c_D_record {l : Launch} (hlf : l.flags = pinnedFlags ++ [noTraceFlag]) {D : va_G} {ca : Nat → ClassId} {ad : Nat → Nat} (hJ : uJ 165 ad) (v : Nat → Nat → Nat → Int32) (π : Nat → Nat) (M : Nat) (hM : M = 64) (n : Nat) (hB : xBk v π n) (a b x : Int32) : tMi l y_D_record b_D_record 5 (some .int) 6 120 1 6 D clsAll (tysAll ca) 165 ad (xG ca ad) (v, π) [.ref (ad 0), .int a, .int b, .int x] (fun r u => (isLst a ∧ isNum b) ∧ ¬ r = -1 ∧ recPost v π n a b x M r u) (fun X u => (¬ (isLst a ∧ isNum b) ∧ u = (v, π) ∧ X = tIA) ∨ ((isLst a ∧ isNum b) ∧ recPost v π n a b x M (-1) u ∧ X = tIS)) := by
  refine tStart (by decide) (Nat.le_of_ble_eq_true rfl) ?_
  intro p e s m below meth c ls S hr hlk hK hN hP hTK hx0 hl
  have hP0 := hP
  have hU : ∀ w ∈ uWS, w ∈ (Cond.code y_D_record b_D_record 5 (some .int) :: uWS) := fun w h => List.mem_cons_of_mem _ h
  have hS : va_S (uA 165 ad s.heap.size) s.heap s.heap [] := va_S.rf
  have hl : lv_has ls 5 [(0, .ref (ad 0)), (1, .int a), (2, .int b), (3, .int x)] := hl
  have hn40 : n ≤ 40 := hB.2.1
  refine lv_iload_n S.1 S.2.1 d_D_record_0 rfl (lv_at hl 1 rfl) ?_
  refine uSi (n := 1) (As := [.int a]) (rest := []) S hK hN hP hS (c_D_isList hJ v π a) ⟨hU, t2_25, t2_23, t1_1, by decide +kernel, by decide, by decide⟩ t2_24 rfl hl.1 rfl (Nat.le_of_ble_eq_true rfl) d_D_record_1 ⟨Nat.le_of_ble_eq_true rfl, Nat.le_of_ble_eq_true rfl⟩ (fun r u H locs hp hP hS => ?_)
  obtain ⟨rfl, rfl⟩ := hp
  refine lv_if_eq (tgt := 14) S.1 S.2.1 d_D_record_4 (by decide) (fun c_a => ?_) (fun c_a => ?_)
  · have c_a := pI_no c_a
    exact tRaise (sx := 84) (tx := "no such list or number") S hlf hTK hx0 hlk hP0 (v, π) hP hS rfl (fun w hw => hU w (tBase_in w hw)) (fun w hw => hU w (tIA_in w hw)) (by decide) Bundle.six_0 Bundle.six_1 Bundle.six_2 Bundle.six_5 (hU _ tcl_82) (by decide) hl.1 d_D_record_14 d_D_record_17 d_D_record_18 d_D_record_20 d_D_record_23 (by decide) (by decide) (by decide) (by decide) (by decide) (by decide) (Or.inl ⟨fun z => c_a z.1, rfl, rfl⟩)
  · have c_a := pI_yes c_a
    refine lv_iload_n S.1 S.2.1 d_D_record_7 rfl (lv_at hl 2 rfl) ?_
    refine uSi (n := 1) (As := [.int b]) (rest := []) S hK hN hP hS (c_D_isNumber hJ v π b) ⟨hU, t2_49, t2_47, t1_1, by decide +kernel, by decide, by decide⟩ t2_48 rfl hl.1 rfl (Nat.le_of_ble_eq_true rfl) d_D_record_8 ⟨Nat.le_of_ble_eq_true rfl, Nat.le_of_ble_eq_true rfl⟩ (fun r u H locs hp hP hS => ?_)
    obtain ⟨rfl, rfl⟩ := hp
    refine lv_if_ne (tgt := 24) S.1 S.2.1 d_D_record_11 (by decide) (fun c_b => ?_) (fun c_b => ?_)
    · have c_b := pI_yes c_b
      refine lv_aload_n S.1 S.2.1 d_D_record_24 rfl (lv_at hl 0 rfl) ?_
      refine ur_get (k := 0) (v := .ref (ad 4)) S hK hP (by decide) xg_desk rfl (fun w h => hU w (in_D w h)) 3 (by decide) (hU _ t1_161) rfl d_D_record_25 ?_
      refine lv_aload_n S.1 S.2.1 d_D_record_28 rfl (lv_at hl 0 rfl) ?_
      refine ur_get (k := 0) (v := .ref (ad 87)) S hK hP (by decide) xg_desk rfl (fun w h => hU w (in_D w h)) 1 (by decide) (hU _ t1_159) rfl d_D_record_29 ?_
      refine lv_iload_n S.1 S.2.1 d_D_record_32 rfl (lv_at hl 1 rfl) ?_
      refine lv_iload_n S.1 S.2.1 d_D_record_33 rfl (lv_at hl 2 rfl) ?_
      refine lv_iload_n S.1 S.2.1 d_D_record_34 rfl (lv_at hl 3 rfl) ?_
      refine uVi (n := 4) (b := 4) (As := [.ref (ad 87), .int a, .int b, .int x]) (rest := []) S hK hN hP hS (c_B_recordCue hJ v π M hM n hB a b x) ⟨hU, t2_122, t2_119, t1_5, by decide +kernel, by decide, by decide⟩ t2_120 t2_121 (by decide) xg_book rfl rfl rfl hl.1 rfl (Nat.le_of_ble_eq_true rfl) d_D_record_35 ⟨Nat.le_of_ble_eq_true rfl, Nat.le_of_ble_eq_true rfl⟩ (fun r u H locs hp hP hS => ?_)
      obtain ⟨u1, u2⟩ := u
      refine lv_istore (lv' := [(4, .int r), (0, .ref (ad 0)), (1, .int a), (2, .int b), (3, .int x)]) S.1 S.2.1 d_D_record_38 hl (by decide) rfl (fun ls hl => ?_)
      refine lv_iload S.1 S.2.1 d_D_record_40 (lv_at hl 0 rfl) ?_
      refine lv_iconst (v := (-1)) S.1 S.2.1 d_D_record_42 (by decide) ?_
      refine lv_icmp_ne (tgt := 56) S.1 S.2.1 d_D_record_43 (by decide) (fun c_r => ?_) (fun c_r => ?_)
      · refine lv_iload S.1 S.2.1 d_D_record_56 (lv_at hl 0 rfl) ?_
        exact tIret S hr hlk (u1, u2) (by decide) (by decide) hP hS (⟨⟨c_a, c_b⟩, c_r, hp⟩) d_D_record_58
      · exact tRaise (sx := 95) (tx := "too many cues or moves") S hlf hTK hx0 hlk hP0 (u1, u2) hP hS rfl (fun w hw => hU w (tBase_in w hw)) (fun w hw => hU w (tIS_in w hw)) (by decide) Bundle.six_0 Bundle.six_1 Bundle.six_2 Bundle.six_5 (hU _ tcl_93) (by decide) hl.1 d_D_record_46 d_D_record_49 d_D_record_50 d_D_record_52 d_D_record_55 (by decide) (by decide) (by decide) (by decide) (by decide) (by decide) (Or.inr ⟨⟨c_a, c_b⟩, by rw [c_r] at hp; exact hp, rfl⟩)
    · have c_b := pI_no c_b
      exact tRaise (sx := 84) (tx := "no such list or number") S hlf hTK hx0 hlk hP0 (v, π) hP hS rfl (fun w hw => hU w (tBase_in w hw)) (fun w hw => hU w (tIA_in w hw)) (by decide) Bundle.six_0 Bundle.six_1 Bundle.six_2 Bundle.six_5 (hU _ tcl_82) (by decide) hl.1 d_D_record_14 d_D_record_17 d_D_record_18 d_D_record_20 d_D_record_23 (by decide) (by decide) (by decide) (by decide) (by decide) (by decide) (Or.inl ⟨fun z => c_b z.2, rfl, rfl⟩)

set_option maxRecDepth 100000 in
set_option maxHeartbeats 4000000 in
theorem c_D_update {l : Launch} (hlf : l.flags = pinnedFlags ++ [noTraceFlag]) {D : va_G} {ca : Nat → ClassId} {ad : Nat → Nat} (hJ : uJ 165 ad) (v : Nat → Nat → Nat → Int32) (π : Nat → Nat) (M : Nat) (hM : M = 64) (n : Nat) (hB : xBk v π n) (a b : Int32) : tMi l y_D_update b_D_update 5 (some .int) 7 105 2 12 D clsAll (tysAll ca) 165 ad (xG ca ad) (v, π) [.ref (ad 0), .int a, .int b] (fun r u => ∃ q, fndO v π n a b = some q ∧ ¬ r = -1 ∧ updPost v π n q M r u) (fun X u => (u = (v, π) ∧ fndO v π n a b = none ∧ X = tNS) ∨ (∃ q, fndO v π n a b = some q ∧ updPost v π n q M (-1) u ∧ X = tIS)) := by
  refine tStart (by decide) (Nat.le_of_ble_eq_true rfl) ?_
  intro p e s m below meth c ls S hr hlk hK hN hP hTK hx0 hl
  have hP0 := hP
  have hU : ∀ w ∈ uWS, w ∈ (Cond.code y_D_update b_D_update 5 (some .int) :: uWS) := fun w h => List.mem_cons_of_mem _ h
  have hS : va_S (uA 165 ad s.heap.size) s.heap s.heap [] := va_S.rf
  have hl : lv_has ls 5 [(0, .ref (ad 0)), (1, .int a), (2, .int b)] := hl
  have hn40 : n ≤ 40 := hB.2.1
  refine lv_aload_n S.1 S.2.1 d_D_update_0 rfl (lv_at hl 0 rfl) ?_
  refine lv_iload_n S.1 S.2.1 d_D_update_1 rfl (lv_at hl 1 rfl) ?_
  refine lv_iload_n S.1 S.2.1 d_D_update_2 rfl (lv_at hl 2 rfl) ?_
  refine tVi (n := 2) (b := 0) (As := [.int a, .int b]) (rest := []) S hK hN hTK hP0 hP hS (c_D_placeOrThrow hlf hJ v π  n hB a b) ⟨hU, t2_198, t2_195, t1_1, by decide +kernel, by decide, by decide⟩ t2_197 tp_6 (by decide) xg_desk rfl rfl rfl hl.1 rfl (Nat.le_of_ble_eq_true rfl) d_D_update_3 (by decide) (by decide) (fun r u H locs hp hP hS => ?_) (fun xa X u cell H locs hp hP hS h1 h2 h3 => tLeave hx0 hlk (by decide) (by decide) hP hS (by obtain ⟨rfl, hf, rfl⟩ := hp; exact Or.inl ⟨rfl, hf, rfl⟩) h1 h2 h3)
  obtain ⟨rfl, q, hq0, rfl⟩ := hp
  have hq := fndO_lt _ hq0
  refine lv_istore_n (lv' := [(3, .int (nI q)), (0, .ref (ad 0)), (1, .int a), (2, .int b)]) S.1 S.2.1 d_D_update_6 rfl hl (by decide) rfl (fun ls hl => ?_)
  refine lv_aload_n S.1 S.2.1 d_D_update_7 rfl (lv_at hl 1 rfl) ?_
  refine ur_get (k := 0) (v := .ref (ad 4)) S hK hP (by decide) xg_desk rfl (fun w h => hU w (in_D w h)) 3 (by decide) (hU _ t1_161) rfl d_D_update_8 ?_
  refine lv_aload_n S.1 S.2.1 d_D_update_11 rfl (lv_at hl 1 rfl) ?_
  refine ur_get (k := 0) (v := .ref (ad 87)) S hK hP (by decide) xg_desk rfl (fun w h => hU w (in_D w h)) 1 (by decide) (hU _ t1_159) rfl d_D_update_12 ?_
  refine lv_iload_n S.1 S.2.1 d_D_update_15 rfl (lv_at hl 0 rfl) ?_
  refine uVi (n := 2) (b := 4) (As := [.ref (ad 87), .int (nI q)]) (rest := []) S hK hN hP hS (c_B_updateSources hJ v π M hM n hB q hq) ⟨hU, t2_218, t2_215, t1_5, by decide +kernel, by decide, by decide⟩ t2_216 t2_217 (by decide) xg_book rfl rfl rfl hl.1 rfl (Nat.le_of_ble_eq_true rfl) d_D_update_16 ⟨Nat.le_of_ble_eq_true rfl, Nat.le_of_ble_eq_true rfl⟩ (fun r u H locs hp hP hS => ?_)
  obtain ⟨u1, u2⟩ := u
  refine lv_istore (lv' := [(4, .int r), (3, .int (nI q)), (0, .ref (ad 0)), (1, .int a), (2, .int b)]) S.1 S.2.1 d_D_update_19 hl (by decide) rfl (fun ls hl => ?_)
  refine lv_iload S.1 S.2.1 d_D_update_21 (lv_at hl 0 rfl) ?_
  refine lv_iconst (v := (-1)) S.1 S.2.1 d_D_update_23 (by decide) ?_
  refine lv_icmp_ne (tgt := 37) S.1 S.2.1 d_D_update_24 (by decide) (fun c_r => ?_) (fun c_r => ?_)
  · refine lv_iload S.1 S.2.1 d_D_update_37 (lv_at hl 0 rfl) ?_
    exact tIret S hr hlk (u1, u2) (by decide) (by decide) hP hS (⟨q, hq0, c_r, hp⟩) d_D_update_39
  · exact tRaise (sx := 106) (tx := "too many moves") S hlf hTK hx0 hlk hP0 (u1, u2) hP hS rfl (fun w hw => hU w (tBase_in w hw)) (fun w hw => hU w (tIS_in w hw)) (by decide) Bundle.six_0 Bundle.six_1 Bundle.six_2 Bundle.six_5 (hU _ tcl_93) (by decide) hl.1 d_D_update_27 d_D_update_30 d_D_update_31 d_D_update_33 d_D_update_36 (by decide) (by decide) (by decide) (by decide) (by decide) (by decide) (Or.inr ⟨q, hq0, by rw [c_r] at hp; exact hp, rfl⟩)

set_option maxRecDepth 100000 in
set_option maxHeartbeats 4000000 in
theorem c_D_delete {l : Launch} (hlf : l.flags = pinnedFlags ++ [noTraceFlag]) {D : va_G} {ca : Nat → ClassId} {ad : Nat → Nat} (hJ : uJ 165 ad) (v : Nat → Nat → Nat → Int32) (π : Nat → Nat) (M : Nat) (hM : M = 64) (n : Nat) (hB : xBk v π n) (a b x : Int32) : tMi l y_D_delete b_D_delete 5 (some .int) 7 116 1 6 D clsAll (tysAll ca) 165 ad (xG ca ad) (v, π) [.ref (ad 0), .int a, .int b, .int x] (fun r u => ∃ q, fndO v π n a b = some q ∧ delPost v π n q x M r u) (fun X u => (u = (v, π) ∧ fndO v π n a b = none ∧ X = tNS) ∨ False) := by
  refine tStart (by decide) (Nat.le_of_ble_eq_true rfl) ?_
  intro p e s m below meth c ls S hr hlk hK hN hP hTK hx0 hl
  have hP0 := hP
  have hU : ∀ w ∈ uWS, w ∈ (Cond.code y_D_delete b_D_delete 5 (some .int) :: uWS) := fun w h => List.mem_cons_of_mem _ h
  have hS : va_S (uA 165 ad s.heap.size) s.heap s.heap [] := va_S.rf
  have hl : lv_has ls 5 [(0, .ref (ad 0)), (1, .int a), (2, .int b), (3, .int x)] := hl
  have hn40 : n ≤ 40 := hB.2.1
  refine lv_aload_n S.1 S.2.1 d_D_delete_0 rfl (lv_at hl 0 rfl) ?_
  refine lv_iload_n S.1 S.2.1 d_D_delete_1 rfl (lv_at hl 1 rfl) ?_
  refine lv_iload_n S.1 S.2.1 d_D_delete_2 rfl (lv_at hl 2 rfl) ?_
  refine tVi (n := 2) (b := 0) (As := [.int a, .int b]) (rest := []) S hK hN hTK hP0 hP hS (c_D_placeOrThrow hlf hJ v π  n hB a b) ⟨hU, t2_198, t2_195, t1_1, by decide +kernel, by decide, by decide⟩ t2_197 tp_6 (by decide) xg_desk rfl rfl rfl hl.1 rfl (Nat.le_of_ble_eq_true rfl) d_D_delete_3 (by decide) (by decide) (fun r u H locs hp hP hS => ?_) (fun xa X u cell H locs hp hP hS h1 h2 h3 => tLeave hx0 hlk (by decide) (by decide) hP hS (by obtain ⟨rfl, hf, rfl⟩ := hp; exact Or.inl ⟨rfl, hf, rfl⟩) h1 h2 h3)
  obtain ⟨rfl, q, hq0, rfl⟩ := hp
  have hq := fndO_lt _ hq0
  refine lv_istore (lv' := [(4, .int (nI q)), (0, .ref (ad 0)), (1, .int a), (2, .int b), (3, .int x)]) S.1 S.2.1 d_D_delete_6 hl (by decide) rfl (fun ls hl => ?_)
  refine lv_aload_n S.1 S.2.1 d_D_delete_8 rfl (lv_at hl 1 rfl) ?_
  refine ur_get (k := 0) (v := .ref (ad 4)) S hK hP (by decide) xg_desk rfl (fun w h => hU w (in_D w h)) 3 (by decide) (hU _ t1_161) rfl d_D_delete_9 ?_
  refine lv_iload S.1 S.2.1 d_D_delete_12 (lv_at hl 0 rfl) ?_
  refine lv_iload_n S.1 S.2.1 d_D_delete_14 rfl (lv_at hl 4 rfl) ?_
  refine uVi (n := 2) (b := 4) (As := [.int (nI q), .int x]) (rest := []) S hK hN hP hS (c_B_deleteCue hJ v π M hM n hB q hq x) ⟨hU, t2_236, t2_233, t1_5, by decide +kernel, by decide, by decide⟩ t2_234 t2_235 (by decide) xg_book rfl rfl rfl hl.1 rfl (Nat.le_of_ble_eq_true rfl) d_D_delete_15 ⟨Nat.le_of_ble_eq_true rfl, Nat.le_of_ble_eq_true rfl⟩ (fun r u H locs hp hP hS => ?_)
  obtain ⟨u1, u2⟩ := u
  exact tIret S hr hlk (u1, u2) (by decide) (by decide) hP hS (⟨q, hq0, hp⟩) d_D_delete_18

set_option maxRecDepth 100000 in
set_option maxHeartbeats 4000000 in
theorem c_D_block {l : Launch} (hlf : l.flags = pinnedFlags ++ [noTraceFlag]) {D : va_G} {ca : Nat → ClassId} {ad : Nat → Nat} (hJ : uJ 165 ad) (v : Nat → Nat → Nat → Int32) (π : Nat → Nat) (M : Nat) (hM : M = 64) (n : Nat) (hB : xBk v π n) (a b x : Int32) : tMi l y_D_block b_D_block 6 (some .int) 7 105 2 12 D clsAll (tysAll ca) 165 ad (xG ca ad) (v, π) [.ref (ad 0), .int a, .int b, .int x] (fun r u => ∃ q, fndO v π n a b = some q ∧ ¬ r = -1 ∧ blkPost v π n q x M r u) (fun X u => (u = (v, π) ∧ fndO v π n a b = none ∧ X = tNS) ∨ (∃ q, fndO v π n a b = some q ∧ blkPost v π n q x M (-1) u ∧ X = tIS)) := by
  refine tStart (by decide) (Nat.le_of_ble_eq_true rfl) ?_
  intro p e s m below meth c ls S hr hlk hK hN hP hTK hx0 hl
  have hP0 := hP
  have hU : ∀ w ∈ uWS, w ∈ (Cond.code y_D_block b_D_block 6 (some .int) :: uWS) := fun w h => List.mem_cons_of_mem _ h
  have hS : va_S (uA 165 ad s.heap.size) s.heap s.heap [] := va_S.rf
  have hl : lv_has ls 6 [(0, .ref (ad 0)), (1, .int a), (2, .int b), (3, .int x)] := hl
  have hn40 : n ≤ 40 := hB.2.1
  refine lv_aload_n S.1 S.2.1 d_D_block_0 rfl (lv_at hl 0 rfl) ?_
  refine lv_iload_n S.1 S.2.1 d_D_block_1 rfl (lv_at hl 1 rfl) ?_
  refine lv_iload_n S.1 S.2.1 d_D_block_2 rfl (lv_at hl 2 rfl) ?_
  refine tVi (n := 2) (b := 0) (As := [.int a, .int b]) (rest := []) S hK hN hTK hP0 hP hS (c_D_placeOrThrow hlf hJ v π  n hB a b) ⟨hU, t2_198, t2_195, t1_1, by decide +kernel, by decide, by decide⟩ t2_197 tp_6 (by decide) xg_desk rfl rfl rfl hl.1 rfl (Nat.le_of_ble_eq_true rfl) d_D_block_3 (by decide) (by decide) (fun r u H locs hp hP hS => ?_) (fun xa X u cell H locs hp hP hS h1 h2 h3 => tLeave hx0 hlk (by decide) (by decide) hP hS (by obtain ⟨rfl, hf, rfl⟩ := hp; exact Or.inl ⟨rfl, hf, rfl⟩) h1 h2 h3)
  obtain ⟨rfl, q, hq0, rfl⟩ := hp
  have hq := fndO_lt _ hq0
  refine lv_istore (lv' := [(4, .int (nI q)), (0, .ref (ad 0)), (1, .int a), (2, .int b), (3, .int x)]) S.1 S.2.1 d_D_block_6 hl (by decide) rfl (fun ls hl => ?_)
  refine lv_iload_n S.1 S.2.1 d_D_block_8 rfl (lv_at hl 4 rfl) ?_
  refine lv_if_eq (tgt := 24) S.1 S.2.1 d_D_block_9 (by decide) (fun c_z => ?_) (fun c_z => ?_)
  · refine lv_aload_n S.1 S.2.1 d_D_block_24 rfl (lv_at hl 1 rfl) ?_
    refine ur_get (k := 0) (v := .ref (ad 4)) S hK hP (by decide) xg_desk rfl (fun w h => hU w (in_D w h)) 3 (by decide) (hU _ t1_161) rfl d_D_block_25 ?_
    refine lv_iload S.1 S.2.1 d_D_block_28 (lv_at hl 0 rfl) ?_
    refine uVi (n := 1) (b := 4) (As := [.int (nI q)]) (rest := []) S hK hN hP hS (c_B_unblockCue hJ v π M hM n hB q hq) ⟨hU, t3_15, t3_12, t1_5, by decide +kernel, by decide, by decide⟩ t3_13 t3_14 (by decide) xg_book rfl rfl rfl hl.1 rfl (Nat.le_of_ble_eq_true rfl) d_D_block_30 ⟨Nat.le_of_ble_eq_true rfl, Nat.le_of_ble_eq_true rfl⟩ (fun r u H locs hp hP hS => ?_)
    obtain ⟨u1, u2⟩ := u
    refine lv_istore (lv' := [(5, .int r), (4, .int (nI q)), (0, .ref (ad 0)), (1, .int a), (2, .int b), (3, .int x)]) S.1 S.2.1 d_D_block_33 hl (by decide) rfl (fun ls hl => ?_)
    refine lv_iload S.1 S.2.1 d_D_block_35 (lv_at hl 0 rfl) ?_
    refine lv_iconst (v := (-1)) S.1 S.2.1 d_D_block_37 (by decide) ?_
    refine lv_icmp_ne (tgt := 51) S.1 S.2.1 d_D_block_38 (by decide) (fun c_r => ?_) (fun c_r => ?_)
    · refine lv_iload S.1 S.2.1 d_D_block_51 (lv_at hl 0 rfl) ?_
      exact tIret S hr hlk (u1, u2) (by decide) (by decide) hP hS (⟨q, hq0, c_r, by unfold blkPost; rw [if_pos c_z]; exact hp⟩) d_D_block_53
    · exact tRaise (sx := 106) (tx := "too many moves") S hlf hTK hx0 hlk hP0 (u1, u2) hP hS rfl (fun w hw => hU w (tBase_in w hw)) (fun w hw => hU w (tIS_in w hw)) (by decide) Bundle.six_0 Bundle.six_1 Bundle.six_2 Bundle.six_5 (hU _ tcl_93) (by decide) hl.1 d_D_block_41 d_D_block_44 d_D_block_45 d_D_block_47 d_D_block_50 (by decide) (by decide) (by decide) (by decide) (by decide) (by decide) (Or.inr ⟨q, hq0, by rw [c_r] at hp; exact (by unfold blkPost; rw [if_pos c_z]; exact hp), rfl⟩)
  · refine lv_aload_n S.1 S.2.1 d_D_block_12 rfl (lv_at hl 1 rfl) ?_
    refine ur_get (k := 0) (v := .ref (ad 4)) S hK hP (by decide) xg_desk rfl (fun w h => hU w (in_D w h)) 3 (by decide) (hU _ t1_161) rfl d_D_block_13 ?_
    refine lv_iload S.1 S.2.1 d_D_block_16 (lv_at hl 0 rfl) ?_
    refine uVi (n := 1) (b := 4) (As := [.int (nI q)]) (rest := []) S hK hN hP hS (c_B_blockCue hJ v π M hM n hB q hq) ⟨hU, t3_11, t3_8, t1_5, by decide +kernel, by decide, by decide⟩ t3_9 t3_10 (by decide) xg_book rfl rfl rfl hl.1 rfl (Nat.le_of_ble_eq_true rfl) d_D_block_18 ⟨Nat.le_of_ble_eq_true rfl, Nat.le_of_ble_eq_true rfl⟩ (fun r u H locs hp hP hS => ?_)
    obtain ⟨u1, u2⟩ := u
    refine lv_goto (tgt := 33) S.1 S.2.1 d_D_block_21 (by decide) ?_
    refine lv_istore (lv' := [(5, .int r), (4, .int (nI q)), (0, .ref (ad 0)), (1, .int a), (2, .int b), (3, .int x)]) S.1 S.2.1 d_D_block_33 hl (by decide) rfl (fun ls hl => ?_)
    refine lv_iload S.1 S.2.1 d_D_block_35 (lv_at hl 0 rfl) ?_
    refine lv_iconst (v := (-1)) S.1 S.2.1 d_D_block_37 (by decide) ?_
    refine lv_icmp_ne (tgt := 51) S.1 S.2.1 d_D_block_38 (by decide) (fun c_r => ?_) (fun c_r => ?_)
    · refine lv_iload S.1 S.2.1 d_D_block_51 (lv_at hl 0 rfl) ?_
      exact tIret S hr hlk (u1, u2) (by decide) (by decide) hP hS (⟨q, hq0, c_r, by unfold blkPost; rw [if_neg c_z]; exact hp⟩) d_D_block_53
    · exact tRaise (sx := 106) (tx := "too many moves") S hlf hTK hx0 hlk hP0 (u1, u2) hP hS rfl (fun w hw => hU w (tBase_in w hw)) (fun w hw => hU w (tIS_in w hw)) (by decide) Bundle.six_0 Bundle.six_1 Bundle.six_2 Bundle.six_5 (hU _ tcl_93) (by decide) hl.1 d_D_block_41 d_D_block_44 d_D_block_45 d_D_block_47 d_D_block_50 (by decide) (by decide) (by decide) (by decide) (by decide) (by decide) (Or.inr ⟨q, hq0, by rw [c_r] at hp; exact (by unfold blkPost; rw [if_neg c_z]; exact hp), rfl⟩)
