/-! The law's own methods (printed by wip/gen/gen_l1.py) -/
theorem kTab1 {L : List ExceptionTableEntry} {a b c d : Nat} (h : L.map (fun h => (h.startPc, h.endPc, h.handlerPc, h.catchType)) = [(a, b, c, d)]) : ∃ x, L = [x] ∧ x.startPc = a ∧ x.endPc = b ∧ x.handlerPc = c ∧ x.catchType = d := by
  cases L with
  | nil => cases h
  | cons x t =>
    cases t with
    | nil =>
      simp at h
      exact ⟨x, rfl, h.1, h.2.1, h.2.2.1, h.2.2.2⟩
    | cons y t => simp at h
theorem kTab2 {L : List ExceptionTableEntry} {a b c d a' b' c' d' : Nat} (h : L.map (fun h => (h.startPc, h.endPc, h.handlerPc, h.catchType)) = [(a, b, c, d), (a', b', c', d')]) : ∃ x y, L = [x, y] ∧ (x.startPc = a ∧ x.endPc = b ∧ x.handlerPc = c ∧ x.catchType = d) ∧ y.startPc = a' ∧ y.endPc = b' ∧ y.handlerPc = c' ∧ y.catchType = d' := by
  cases L with
  | nil => cases h
  | cons x t =>
    cases t with
    | nil => simp at h
    | cons y t =>
      cases t with
      | nil =>
        simp at h
        exact ⟨x, y, rfl, h.1, h.2⟩
      | cons z t => simp at h
theorem kl_13 : Cond.classLink "LightingDeskLaw" 13 tIA ∈ uWS := uWS_mem (tm2 (List.mem_of_getElem? (i := 41) rfl)) rfl
theorem kl_15 : Cond.classLink "LightingDeskLaw" 15 tIS ∈ uWS := uWS_mem (tm2 (List.mem_of_getElem? (i := 42) rfl)) rfl
theorem kl_21 : Cond.classLink "LightingDeskLaw" 21 tNS ∈ uWS := uWS_mem (tm2 (List.mem_of_getElem? (i := 190) rfl)) rfl
theorem kl_33 : Cond.classLink "LightingDeskLaw" 33 tIO ∈ uWS := uWS_mem (tm3 (List.mem_of_getElem? (i := 24) rfl)) rfl
set_option maxRecDepth 100000 in
set_option maxHeartbeats 4000000 in
theorem c_L_record {l : Launch} (hlf : l.flags = pinnedFlags ++ [noTraceFlag]) {D : va_G} {ca : Nat → ClassId} {ad : Nat → Nat} (hJ : uJ 166 ad) (v : Nat → Nat → Nat → Int32) (π : Nat → Nat) (M : Nat) (hM : M = 64) (n : Nat) (hB : xBk v π n) (a b x : Int32) (o0 : Nat → Int64) : kMi l y_L_record b_L_record 6 [(0, 12, 15, 13), (0, 12, 19, 15)] 7 144 1 6 D clsAll (tysAll ca) ca ad ((v, π), o0) [.ref (ad 0), .int a, .int b, .int x, .ref (ad 165)] (fun k z => (k = 0 ∧ ∃ r, (fun r u => (isLst a ∧ isNum b) ∧ ¬ r = -1 ∧ recPost v π n a b x M r u) r z.1 ∧ z.2 0 = r.toInt64) ∨ (k = 1 ∧ (fun X u => (¬ (isLst a ∧ isNum b) ∧ u = (v, π) ∧ X = tIA) ∨ ((isLst a ∧ isNum b) ∧ recPost v π n a b x M (-1) u ∧ X = tIS)) tIA z.1) ∨ (k = 2 ∧ (fun X u => (¬ (isLst a ∧ isNum b) ∧ u = (v, π) ∧ X = tIA) ∨ ((isLst a ∧ isNum b) ∧ recPost v π n a b x M (-1) u ∧ X = tIS)) tIS z.1)) := by
  refine kStart (by decide) (Nat.le_of_ble_eq_true rfl) ?_
  intro p e s m below meth c ls S hr hlk hK hN hP hTK hNC hx hl
  have hJ5 : uJ 165 ad := fun i j hi hj => hJ i j (by omega) (by omega)
  have hP0 := hP
  have hU : ∀ w ∈ uWS, w ∈ (Cond.codeWith y_L_record b_L_record 6 (some .int) [(0, 12, 15, 13), (0, 12, 19, 15)] :: uWS) := fun w h => List.mem_cons_of_mem _ h
  have hS : va_S (uA 166 ad s.heap.size) s.heap s.heap [] := va_S.rf
  have hl : lv_has ls 6 [(0, .ref (ad 0)), (1, .int a), (2, .int b), (3, .int x), (4, .ref (ad 165))] := hl
  refine lv_aload S.1 S.2.1 d_L_record_0 (lv_at hl 4 rfl) ?_
  refine lv_iconst (v := 0) S.1 S.2.1 d_L_record_2 (by decide) ?_
  refine lv_aload_n S.1 S.2.1 d_L_record_3 rfl (lv_at hl 0 rfl) ?_
  refine lv_iload_n S.1 S.2.1 d_L_record_4 rfl (lv_at hl 1 rfl) ?_
  refine lv_iload_n S.1 S.2.1 d_L_record_5 rfl (lv_at hl 2 rfl) ?_
  refine lv_iload_n S.1 S.2.1 d_L_record_6 rfl (lv_at hl 3 rfl) ?_
  refine kVi (n := 3) (b := 0) (As := [.int a, .int b, .int x]) (rest := [.int 0, .ref (ad 165)]) S hK hN hTK hJ hP0 hP hS (c_D_record hlf hJ5 v π M hM n hB a b x) ⟨hU, t2_46, t2_43, t1_1, by decide +kernel, by decide, by decide⟩ t2_44 t2_45 (by decide) xg_desk rfl rfl rfl hl.1 rfl (Nat.le_of_ble_eq_true rfl) d_L_record_7 (by decide) (by decide) (fun r u H locs hp hP hS => ?_) (fun xa X u cell H locs hp hP hS h1 h2 h3 => ?_)
  · refine lv_i2l S.1 S.2.1 d_L_record_10 rfl ?_
    refine k_last S hK hJ hP hS d_L_record_11 (fun H locs hP hS => ?_)
    refine lv_goto (tgt := 23) S.1 S.2.1 d_L_record_12 (by decide) ?_
    refine lv_iconst (v := 0) S.1 S.2.1 d_L_record_23 (by decide) ?_
    exact tIret S hr hlk (u, fun j => if j = 0 then r.toInt64 else o0 j) (by decide) (by decide) hP hS (Or.inl ⟨rfl, r, hp, rfl⟩) d_L_record_24
  · obtain ⟨xe1, xe2, htab, ⟨e1, e2, e3, e4⟩, f1, f2, f3, f4⟩ := kTab2 hx
    have hX : X = tIA ∨ X = tIS := by grind
    rcases hX with hX | hX
    · subst hX
      refine kCatch1 S htab (by simp [covers, e1, e2]) (by rw [e4]; decide) (name := tIA) (by rw [e4]; exact hU _ kl_13) h1 h2 h3 ?_
      rw [e3]
      refine lv_astore (lv' := [(5, .ref xa), (0, .ref (ad 0)), (1, .int a), (2, .int b), (3, .int x), (4, .ref (ad 165))]) S.1 S.2.1 d_L_record_15 hl (by decide) rfl (fun ls hl => ?_)
      refine lv_iconst (v := 1) S.1 S.2.1 d_L_record_17 (by decide) ?_
      exact tIret S hr hlk (u, o0) (by decide) (by decide) hP hS (Or.inr (Or.inl ⟨rfl, hp⟩)) d_L_record_18
    · subst hX
      refine kCatch2 S htab (by simp [covers, e1, e2]) (by rw [e4]; decide) (by simp [covers, f1, f2]) (by rw [f4]; decide) (name := tIS) (name' := tIA) (by rw [e4]; exact hU _ kl_13) (by rw [f4]; exact hU _ kl_15) hNC (by simp [kPairs]) h1 h2 h3 ?_
      rw [f3]
      refine lv_astore (lv' := [(5, .ref xa), (0, .ref (ad 0)), (1, .int a), (2, .int b), (3, .int x), (4, .ref (ad 165))]) S.1 S.2.1 d_L_record_19 hl (by decide) rfl (fun ls hl => ?_)
      refine lv_iconst (v := 2) S.1 S.2.1 d_L_record_21 (by decide) ?_
      exact tIret S hr hlk (u, o0) (by decide) (by decide) hP hS (Or.inr (Or.inr ⟨rfl, hp⟩)) d_L_record_22

set_option maxRecDepth 100000 in
set_option maxHeartbeats 4000000 in
theorem c_L_update {l : Launch} (hlf : l.flags = pinnedFlags ++ [noTraceFlag]) {D : va_G} {ca : Nat → ClassId} {ad : Nat → Nat} (hJ : uJ 166 ad) (v : Nat → Nat → Nat → Int32) (π : Nat → Nat) (M : Nat) (hM : M = 64) (n : Nat) (hB : xBk v π n) (a b : Int32) (o0 : Nat → Int64) : kMi l y_L_update b_L_update 5 [(0, 10, 13, 21), (0, 10, 17, 15)] 8 129 2 12 D clsAll (tysAll ca) ca ad ((v, π), o0) [.ref (ad 0), .int a, .int b, .ref (ad 165)] (fun k z => (k = 0 ∧ ∃ r, (fun r u => ∃ q, fndO v π n a b = some q ∧ ¬ r = -1 ∧ updPost v π n q M r u) r z.1 ∧ z.2 0 = r.toInt64) ∨ (k = 1 ∧ (fun X u => (u = (v, π) ∧ fndO v π n a b = none ∧ X = tNS) ∨ (∃ q, fndO v π n a b = some q ∧ updPost v π n q M (-1) u ∧ X = tIS)) tNS z.1) ∨ (k = 2 ∧ (fun X u => (u = (v, π) ∧ fndO v π n a b = none ∧ X = tNS) ∨ (∃ q, fndO v π n a b = some q ∧ updPost v π n q M (-1) u ∧ X = tIS)) tIS z.1)) := by
  refine kStart (by decide) (Nat.le_of_ble_eq_true rfl) ?_
  intro p e s m below meth c ls S hr hlk hK hN hP hTK hNC hx hl
  have hJ5 : uJ 165 ad := fun i j hi hj => hJ i j (by omega) (by omega)
  have hP0 := hP
  have hU : ∀ w ∈ uWS, w ∈ (Cond.codeWith y_L_update b_L_update 5 (some .int) [(0, 10, 13, 21), (0, 10, 17, 15)] :: uWS) := fun w h => List.mem_cons_of_mem _ h
  have hS : va_S (uA 166 ad s.heap.size) s.heap s.heap [] := va_S.rf
  have hl : lv_has ls 5 [(0, .ref (ad 0)), (1, .int a), (2, .int b), (3, .ref (ad 165))] := hl
  refine lv_aload_n S.1 S.2.1 d_L_update_0 rfl (lv_at hl 3 rfl) ?_
  refine lv_iconst (v := 0) S.1 S.2.1 d_L_update_1 (by decide) ?_
  refine lv_aload_n S.1 S.2.1 d_L_update_2 rfl (lv_at hl 0 rfl) ?_
  refine lv_iload_n S.1 S.2.1 d_L_update_3 rfl (lv_at hl 1 rfl) ?_
  refine lv_iload_n S.1 S.2.1 d_L_update_4 rfl (lv_at hl 2 rfl) ?_
  refine kVi (n := 2) (b := 0) (As := [.int a, .int b]) (rest := [.int 0, .ref (ad 165)]) S hK hN hTK hJ hP0 hP hS (c_D_update hlf hJ5 v π M hM n hB a b) ⟨hU, t2_194, t2_191, t1_1, by decide +kernel, by decide, by decide⟩ t2_192 t2_193 (by decide) xg_desk rfl rfl rfl hl.1 rfl (Nat.le_of_ble_eq_true rfl) d_L_update_5 (by decide) (by decide) (fun r u H locs hp hP hS => ?_) (fun xa X u cell H locs hp hP hS h1 h2 h3 => ?_)
  · refine lv_i2l S.1 S.2.1 d_L_update_8 rfl ?_
    refine k_last S hK hJ hP hS d_L_update_9 (fun H locs hP hS => ?_)
    refine lv_goto (tgt := 21) S.1 S.2.1 d_L_update_10 (by decide) ?_
    refine lv_iconst (v := 0) S.1 S.2.1 d_L_update_21 (by decide) ?_
    exact tIret S hr hlk (u, fun j => if j = 0 then r.toInt64 else o0 j) (by decide) (by decide) hP hS (Or.inl ⟨rfl, r, hp, rfl⟩) d_L_update_22
  · obtain ⟨xe1, xe2, htab, ⟨e1, e2, e3, e4⟩, f1, f2, f3, f4⟩ := kTab2 hx
    have hX : X = tNS ∨ X = tIS := by grind
    rcases hX with hX | hX
    · subst hX
      refine kCatch1 S htab (by simp [covers, e1, e2]) (by rw [e4]; decide) (name := tNS) (by rw [e4]; exact hU _ kl_21) h1 h2 h3 ?_
      rw [e3]
      refine lv_astore (lv' := [(4, .ref xa), (0, .ref (ad 0)), (1, .int a), (2, .int b), (3, .ref (ad 165))]) S.1 S.2.1 d_L_update_13 hl (by decide) rfl (fun ls hl => ?_)
      refine lv_iconst (v := 1) S.1 S.2.1 d_L_update_15 (by decide) ?_
      exact tIret S hr hlk (u, o0) (by decide) (by decide) hP hS (Or.inr (Or.inl ⟨rfl, hp⟩)) d_L_update_16
    · subst hX
      refine kCatch2 S htab (by simp [covers, e1, e2]) (by rw [e4]; decide) (by simp [covers, f1, f2]) (by rw [f4]; decide) (name := tIS) (name' := tNS) (by rw [e4]; exact hU _ kl_21) (by rw [f4]; exact hU _ kl_15) hNC (by simp [kPairs]) h1 h2 h3 ?_
      rw [f3]
      refine lv_astore (lv' := [(4, .ref xa), (0, .ref (ad 0)), (1, .int a), (2, .int b), (3, .ref (ad 165))]) S.1 S.2.1 d_L_update_17 hl (by decide) rfl (fun ls hl => ?_)
      refine lv_iconst (v := 2) S.1 S.2.1 d_L_update_19 (by decide) ?_
      exact tIret S hr hlk (u, o0) (by decide) (by decide) hP hS (Or.inr (Or.inr ⟨rfl, hp⟩)) d_L_update_20

set_option maxRecDepth 100000 in
set_option maxHeartbeats 4000000 in
theorem c_L_delete {l : Launch} (hlf : l.flags = pinnedFlags ++ [noTraceFlag]) {D : va_G} {ca : Nat → ClassId} {ad : Nat → Nat} (hJ : uJ 166 ad) (v : Nat → Nat → Nat → Int32) (π : Nat → Nat) (M : Nat) (hM : M = 64) (n : Nat) (hB : xBk v π n) (a b x : Int32) (o0 : Nat → Int64) : kMi l y_L_delete b_L_delete 6 [(0, 12, 15, 21), (0, 12, 19, 15)] 8 140 1 6 D clsAll (tysAll ca) ca ad ((v, π), o0) [.ref (ad 0), .int a, .int b, .int x, .ref (ad 165)] (fun k z => (k = 0 ∧ ∃ r, (fun r u => ∃ q, fndO v π n a b = some q ∧ delPost v π n q x M r u) r z.1 ∧ z.2 0 = r.toInt64) ∨ (k = 1 ∧ (fun X u => (u = (v, π) ∧ fndO v π n a b = none ∧ X = tNS) ∨ False) tNS z.1) ∨ (k = 2 ∧ (fun X u => (u = (v, π) ∧ fndO v π n a b = none ∧ X = tNS) ∨ False) tIS z.1)) := by
  refine kStart (by decide) (Nat.le_of_ble_eq_true rfl) ?_
  intro p e s m below meth c ls S hr hlk hK hN hP hTK hNC hx hl
  have hJ5 : uJ 165 ad := fun i j hi hj => hJ i j (by omega) (by omega)
  have hP0 := hP
  have hU : ∀ w ∈ uWS, w ∈ (Cond.codeWith y_L_delete b_L_delete 6 (some .int) [(0, 12, 15, 21), (0, 12, 19, 15)] :: uWS) := fun w h => List.mem_cons_of_mem _ h
  have hS : va_S (uA 166 ad s.heap.size) s.heap s.heap [] := va_S.rf
  have hl : lv_has ls 6 [(0, .ref (ad 0)), (1, .int a), (2, .int b), (3, .int x), (4, .ref (ad 165))] := hl
  refine lv_aload S.1 S.2.1 d_L_delete_0 (lv_at hl 4 rfl) ?_
  refine lv_iconst (v := 0) S.1 S.2.1 d_L_delete_2 (by decide) ?_
  refine lv_aload_n S.1 S.2.1 d_L_delete_3 rfl (lv_at hl 0 rfl) ?_
  refine lv_iload_n S.1 S.2.1 d_L_delete_4 rfl (lv_at hl 1 rfl) ?_
  refine lv_iload_n S.1 S.2.1 d_L_delete_5 rfl (lv_at hl 2 rfl) ?_
  refine lv_iload_n S.1 S.2.1 d_L_delete_6 rfl (lv_at hl 3 rfl) ?_
  refine kVi (n := 3) (b := 0) (As := [.int a, .int b, .int x]) (rest := [.int 0, .ref (ad 165)]) S hK hN hTK hJ hP0 hP hS (c_D_delete hlf hJ5 v π M hM n hB a b x) ⟨hU, t2_232, t2_229, t1_1, by decide +kernel, by decide, by decide⟩ t2_230 t2_231 (by decide) xg_desk rfl rfl rfl hl.1 rfl (Nat.le_of_ble_eq_true rfl) d_L_delete_7 (by decide) (by decide) (fun r u H locs hp hP hS => ?_) (fun xa X u cell H locs hp hP hS h1 h2 h3 => ?_)
  · refine lv_i2l S.1 S.2.1 d_L_delete_10 rfl ?_
    refine k_last S hK hJ hP hS d_L_delete_11 (fun H locs hP hS => ?_)
    refine lv_goto (tgt := 23) S.1 S.2.1 d_L_delete_12 (by decide) ?_
    refine lv_iconst (v := 0) S.1 S.2.1 d_L_delete_23 (by decide) ?_
    exact tIret S hr hlk (u, fun j => if j = 0 then r.toInt64 else o0 j) (by decide) (by decide) hP hS (Or.inl ⟨rfl, r, hp, rfl⟩) d_L_delete_24
  · obtain ⟨xe1, xe2, htab, ⟨e1, e2, e3, e4⟩, f1, f2, f3, f4⟩ := kTab2 hx
    have hX : X = tNS ∨ X = tIS := by grind
    rcases hX with hX | hX
    · subst hX
      refine kCatch1 S htab (by simp [covers, e1, e2]) (by rw [e4]; decide) (name := tNS) (by rw [e4]; exact hU _ kl_21) h1 h2 h3 ?_
      rw [e3]
      refine lv_astore (lv' := [(5, .ref xa), (0, .ref (ad 0)), (1, .int a), (2, .int b), (3, .int x), (4, .ref (ad 165))]) S.1 S.2.1 d_L_delete_15 hl (by decide) rfl (fun ls hl => ?_)
      refine lv_iconst (v := 1) S.1 S.2.1 d_L_delete_17 (by decide) ?_
      exact tIret S hr hlk (u, o0) (by decide) (by decide) hP hS (Or.inr (Or.inl ⟨rfl, hp⟩)) d_L_delete_18
    · subst hX
      refine kCatch2 S htab (by simp [covers, e1, e2]) (by rw [e4]; decide) (by simp [covers, f1, f2]) (by rw [f4]; decide) (name := tIS) (name' := tNS) (by rw [e4]; exact hU _ kl_21) (by rw [f4]; exact hU _ kl_15) hNC (by simp [kPairs]) h1 h2 h3 ?_
      rw [f3]
      refine lv_astore (lv' := [(5, .ref xa), (0, .ref (ad 0)), (1, .int a), (2, .int b), (3, .int x), (4, .ref (ad 165))]) S.1 S.2.1 d_L_delete_19 hl (by decide) rfl (fun ls hl => ?_)
      refine lv_iconst (v := 2) S.1 S.2.1 d_L_delete_21 (by decide) ?_
      exact tIret S hr hlk (u, o0) (by decide) (by decide) hP hS (Or.inr (Or.inr ⟨rfl, hp⟩)) d_L_delete_22

set_option maxRecDepth 100000 in
set_option maxHeartbeats 4000000 in
theorem c_L_block {l : Launch} (hlf : l.flags = pinnedFlags ++ [noTraceFlag]) {D : va_G} {ca : Nat → ClassId} {ad : Nat → Nat} (hJ : uJ 166 ad) (v : Nat → Nat → Nat → Int32) (π : Nat → Nat) (M : Nat) (hM : M = 64) (n : Nat) (hB : xBk v π n) (a b x : Int32) (o0 : Nat → Int64) : kMi l y_L_block b_L_block 6 [(0, 12, 15, 21), (0, 12, 19, 15)] 8 130 2 12 D clsAll (tysAll ca) ca ad ((v, π), o0) [.ref (ad 0), .int a, .int b, .int x, .ref (ad 165)] (fun k z => (k = 0 ∧ ∃ r, (fun r u => ∃ q, fndO v π n a b = some q ∧ ¬ r = -1 ∧ blkPost v π n q x M r u) r z.1 ∧ z.2 0 = r.toInt64) ∨ (k = 1 ∧ (fun X u => (u = (v, π) ∧ fndO v π n a b = none ∧ X = tNS) ∨ (∃ q, fndO v π n a b = some q ∧ blkPost v π n q x M (-1) u ∧ X = tIS)) tNS z.1) ∨ (k = 2 ∧ (fun X u => (u = (v, π) ∧ fndO v π n a b = none ∧ X = tNS) ∨ (∃ q, fndO v π n a b = some q ∧ blkPost v π n q x M (-1) u ∧ X = tIS)) tIS z.1)) := by
  refine kStart (by decide) (Nat.le_of_ble_eq_true rfl) ?_
  intro p e s m below meth c ls S hr hlk hK hN hP hTK hNC hx hl
  have hJ5 : uJ 165 ad := fun i j hi hj => hJ i j (by omega) (by omega)
  have hP0 := hP
  have hU : ∀ w ∈ uWS, w ∈ (Cond.codeWith y_L_block b_L_block 6 (some .int) [(0, 12, 15, 21), (0, 12, 19, 15)] :: uWS) := fun w h => List.mem_cons_of_mem _ h
  have hS : va_S (uA 166 ad s.heap.size) s.heap s.heap [] := va_S.rf
  have hl : lv_has ls 6 [(0, .ref (ad 0)), (1, .int a), (2, .int b), (3, .int x), (4, .ref (ad 165))] := hl
  refine lv_aload S.1 S.2.1 d_L_block_0 (lv_at hl 4 rfl) ?_
  refine lv_iconst (v := 0) S.1 S.2.1 d_L_block_2 (by decide) ?_
  refine lv_aload_n S.1 S.2.1 d_L_block_3 rfl (lv_at hl 0 rfl) ?_
  refine lv_iload_n S.1 S.2.1 d_L_block_4 rfl (lv_at hl 1 rfl) ?_
  refine lv_iload_n S.1 S.2.1 d_L_block_5 rfl (lv_at hl 2 rfl) ?_
  refine lv_iload_n S.1 S.2.1 d_L_block_6 rfl (lv_at hl 3 rfl) ?_
  refine kVi (n := 3) (b := 0) (As := [.int a, .int b, .int x]) (rest := [.int 0, .ref (ad 165)]) S hK hN hTK hJ hP0 hP hS (c_D_block hlf hJ5 v π M hM n hB a b x) ⟨hU, t3_7, t3_4, t1_1, by decide +kernel, by decide, by decide⟩ t3_5 t3_6 (by decide) xg_desk rfl rfl rfl hl.1 rfl (Nat.le_of_ble_eq_true rfl) d_L_block_7 (by decide) (by decide) (fun r u H locs hp hP hS => ?_) (fun xa X u cell H locs hp hP hS h1 h2 h3 => ?_)
  · refine lv_i2l S.1 S.2.1 d_L_block_10 rfl ?_
    refine k_last S hK hJ hP hS d_L_block_11 (fun H locs hP hS => ?_)
    refine lv_goto (tgt := 23) S.1 S.2.1 d_L_block_12 (by decide) ?_
    refine lv_iconst (v := 0) S.1 S.2.1 d_L_block_23 (by decide) ?_
    exact tIret S hr hlk (u, fun j => if j = 0 then r.toInt64 else o0 j) (by decide) (by decide) hP hS (Or.inl ⟨rfl, r, hp, rfl⟩) d_L_block_24
  · obtain ⟨xe1, xe2, htab, ⟨e1, e2, e3, e4⟩, f1, f2, f3, f4⟩ := kTab2 hx
    have hX : X = tNS ∨ X = tIS := by grind
    rcases hX with hX | hX
    · subst hX
      refine kCatch1 S htab (by simp [covers, e1, e2]) (by rw [e4]; decide) (name := tNS) (by rw [e4]; exact hU _ kl_21) h1 h2 h3 ?_
      rw [e3]
      refine lv_astore (lv' := [(5, .ref xa), (0, .ref (ad 0)), (1, .int a), (2, .int b), (3, .int x), (4, .ref (ad 165))]) S.1 S.2.1 d_L_block_15 hl (by decide) rfl (fun ls hl => ?_)
      refine lv_iconst (v := 1) S.1 S.2.1 d_L_block_17 (by decide) ?_
      exact tIret S hr hlk (u, o0) (by decide) (by decide) hP hS (Or.inr (Or.inl ⟨rfl, hp⟩)) d_L_block_18
    · subst hX
      refine kCatch2 S htab (by simp [covers, e1, e2]) (by rw [e4]; decide) (by simp [covers, f1, f2]) (by rw [f4]; decide) (name := tIS) (name' := tNS) (by rw [e4]; exact hU _ kl_21) (by rw [f4]; exact hU _ kl_15) hNC (by simp [kPairs]) h1 h2 h3 ?_
      rw [f3]
      refine lv_astore (lv' := [(5, .ref xa), (0, .ref (ad 0)), (1, .int a), (2, .int b), (3, .int x), (4, .ref (ad 165))]) S.1 S.2.1 d_L_block_19 hl (by decide) rfl (fun ls hl => ?_)
      refine lv_iconst (v := 2) S.1 S.2.1 d_L_block_21 (by decide) ?_
      exact tIret S hr hlk (u, o0) (by decide) (by decide) hP hS (Or.inr (Or.inr ⟨rfl, hp⟩)) d_L_block_22

set_option maxRecDepth 100000 in
set_option maxHeartbeats 4000000 in
theorem c_L_look {l : Launch} (hlf : l.flags = pinnedFlags ++ [noTraceFlag]) {D : va_G} {ca : Nat → ClassId} {ad : Nat → Nat} (hJ : uJ 166 ad) (v : Nat → Nat → Nat → Int32) (π : Nat → Nat) (n : Nat) (hB : xBk v π n) (a b x : Int32) (o0 : Nat → Int64) : kMi l y_L_look b_L_look 6 [(0, 12, 15, 21), (0, 12, 19, 33)] 8 129 2 12 D clsAll (tysAll ca) ca ad ((v, π), o0) [.ref (ad 0), .int a, .int b, .int x, .ref (ad 165)] (fun k z => (k = 0 ∧ ∃ r, (fun r u => u = (v, π) ∧ ∃ q, fndO v π n a b = some q ∧ isCh x ∧ r = vLev v (trk v π x.toNatClampNeg (some q)) x.toNatClampNeg) r z.1 ∧ z.2 0 = r.toInt64) ∨ (k = 1 ∧ (fun X u => (u = (v, π) ∧ fndO v π n a b = none ∧ X = tNS) ∨ (u = (v, π) ∧ (∃ q, fndO v π n a b = some q) ∧ ¬ isCh x ∧ X = tIO)) tNS z.1) ∨ (k = 2 ∧ (fun X u => (u = (v, π) ∧ fndO v π n a b = none ∧ X = tNS) ∨ (u = (v, π) ∧ (∃ q, fndO v π n a b = some q) ∧ ¬ isCh x ∧ X = tIO)) tIO z.1)) := by
  refine kStart (by decide) (Nat.le_of_ble_eq_true rfl) ?_
  intro p e s m below meth c ls S hr hlk hK hN hP hTK hNC hx hl
  have hJ5 : uJ 165 ad := fun i j hi hj => hJ i j (by omega) (by omega)
  have hP0 := hP
  have hU : ∀ w ∈ uWS, w ∈ (Cond.codeWith y_L_look b_L_look 6 (some .int) [(0, 12, 15, 21), (0, 12, 19, 33)] :: uWS) := fun w h => List.mem_cons_of_mem _ h
  have hS : va_S (uA 166 ad s.heap.size) s.heap s.heap [] := va_S.rf
  have hl : lv_has ls 6 [(0, .ref (ad 0)), (1, .int a), (2, .int b), (3, .int x), (4, .ref (ad 165))] := hl
  refine lv_aload S.1 S.2.1 d_L_look_0 (lv_at hl 4 rfl) ?_
  refine lv_iconst (v := 0) S.1 S.2.1 d_L_look_2 (by decide) ?_
  refine lv_aload_n S.1 S.2.1 d_L_look_3 rfl (lv_at hl 0 rfl) ?_
  refine lv_iload_n S.1 S.2.1 d_L_look_4 rfl (lv_at hl 1 rfl) ?_
  refine lv_iload_n S.1 S.2.1 d_L_look_5 rfl (lv_at hl 2 rfl) ?_
  refine lv_iload_n S.1 S.2.1 d_L_look_6 rfl (lv_at hl 3 rfl) ?_
  refine kVi (n := 3) (b := 0) (As := [.int a, .int b, .int x]) (rest := [.int 0, .ref (ad 165)]) S hK hN hTK hJ hP0 hP hS (c_D_look hlf hJ5 v π n hB a b x) ⟨hU, t3_28, t3_25, t1_1, by decide +kernel, by decide, by decide⟩ t3_26 t3_27 (by decide) xg_desk rfl rfl rfl hl.1 rfl (Nat.le_of_ble_eq_true rfl) d_L_look_7 (by decide) (by decide) (fun r u H locs hp hP hS => ?_) (fun xa X u cell H locs hp hP hS h1 h2 h3 => ?_)
  · refine lv_i2l S.1 S.2.1 d_L_look_10 rfl ?_
    refine k_last S hK hJ hP hS d_L_look_11 (fun H locs hP hS => ?_)
    refine lv_goto (tgt := 23) S.1 S.2.1 d_L_look_12 (by decide) ?_
    refine lv_iconst (v := 0) S.1 S.2.1 d_L_look_23 (by decide) ?_
    exact tIret S hr hlk (u, fun j => if j = 0 then r.toInt64 else o0 j) (by decide) (by decide) hP hS (Or.inl ⟨rfl, r, hp, rfl⟩) d_L_look_24
  · obtain ⟨xe1, xe2, htab, ⟨e1, e2, e3, e4⟩, f1, f2, f3, f4⟩ := kTab2 hx
    have hX : X = tNS ∨ X = tIO := by grind
    rcases hX with hX | hX
    · subst hX
      refine kCatch1 S htab (by simp [covers, e1, e2]) (by rw [e4]; decide) (name := tNS) (by rw [e4]; exact hU _ kl_21) h1 h2 h3 ?_
      rw [e3]
      refine lv_astore (lv' := [(5, .ref xa), (0, .ref (ad 0)), (1, .int a), (2, .int b), (3, .int x), (4, .ref (ad 165))]) S.1 S.2.1 d_L_look_15 hl (by decide) rfl (fun ls hl => ?_)
      refine lv_iconst (v := 1) S.1 S.2.1 d_L_look_17 (by decide) ?_
      exact tIret S hr hlk (u, o0) (by decide) (by decide) hP hS (Or.inr (Or.inl ⟨rfl, hp⟩)) d_L_look_18
    · subst hX
      refine kCatch2 S htab (by simp [covers, e1, e2]) (by rw [e4]; decide) (by simp [covers, f1, f2]) (by rw [f4]; decide) (name := tIO) (name' := tNS) (by rw [e4]; exact hU _ kl_21) (by rw [f4]; exact hU _ kl_33) hNC (by simp [kPairs]) h1 h2 h3 ?_
      rw [f3]
      refine lv_astore (lv' := [(5, .ref xa), (0, .ref (ad 0)), (1, .int a), (2, .int b), (3, .int x), (4, .ref (ad 165))]) S.1 S.2.1 d_L_look_19 hl (by decide) rfl (fun ls hl => ?_)
      refine lv_iconst (v := 2) S.1 S.2.1 d_L_look_21 (by decide) ?_
      exact tIret S hr hlk (u, o0) (by decide) (by decide) hP hS (Or.inr (Or.inr ⟨rfl, hp⟩)) d_L_look_22

set_option maxRecDepth 100000 in
set_option maxHeartbeats 4000000 in
theorem c_L_source {l : Launch} (hlf : l.flags = pinnedFlags ++ [noTraceFlag]) {D : va_G} {ca : Nat → ClassId} {ad : Nat → Nat} (hJ : uJ 166 ad) (v : Nat → Nat → Nat → Int32) (π : Nat → Nat) (n : Nat) (hB : xBk v π n) (a b x : Int32) (o0 : Nat → Int64) : kMi l y_L_source b_L_source 6 [(0, 12, 15, 21), (0, 12, 19, 33)] 8 130 2 12 D clsAll (tysAll ca) ca ad ((v, π), o0) [.ref (ad 0), .int a, .int b, .int x, .ref (ad 165)] (fun k z => (k = 0 ∧ ∃ r, (fun r u => u = (v, π) ∧ ∃ q, fndO v π n a b = some q ∧ isCh x ∧ r = xNum v π (srcO v π x.toNatClampNeg (some q))) r z.1 ∧ z.2 0 = r.toInt64) ∨ (k = 1 ∧ (fun X u => (u = (v, π) ∧ fndO v π n a b = none ∧ X = tNS) ∨ (u = (v, π) ∧ (∃ q, fndO v π n a b = some q) ∧ ¬ isCh x ∧ X = tIO)) tNS z.1) ∨ (k = 2 ∧ (fun X u => (u = (v, π) ∧ fndO v π n a b = none ∧ X = tNS) ∨ (u = (v, π) ∧ (∃ q, fndO v π n a b = some q) ∧ ¬ isCh x ∧ X = tIO)) tIO z.1)) := by
  refine kStart (by decide) (Nat.le_of_ble_eq_true rfl) ?_
  intro p e s m below meth c ls S hr hlk hK hN hP hTK hNC hx hl
  have hJ5 : uJ 165 ad := fun i j hi hj => hJ i j (by omega) (by omega)
  have hP0 := hP
  have hU : ∀ w ∈ uWS, w ∈ (Cond.codeWith y_L_source b_L_source 6 (some .int) [(0, 12, 15, 21), (0, 12, 19, 33)] :: uWS) := fun w h => List.mem_cons_of_mem _ h
  have hS : va_S (uA 166 ad s.heap.size) s.heap s.heap [] := va_S.rf
  have hl : lv_has ls 6 [(0, .ref (ad 0)), (1, .int a), (2, .int b), (3, .int x), (4, .ref (ad 165))] := hl
  refine lv_aload S.1 S.2.1 d_L_source_0 (lv_at hl 4 rfl) ?_
  refine lv_iconst (v := 0) S.1 S.2.1 d_L_source_2 (by decide) ?_
  refine lv_aload_n S.1 S.2.1 d_L_source_3 rfl (lv_at hl 0 rfl) ?_
  refine lv_iload_n S.1 S.2.1 d_L_source_4 rfl (lv_at hl 1 rfl) ?_
  refine lv_iload_n S.1 S.2.1 d_L_source_5 rfl (lv_at hl 2 rfl) ?_
  refine lv_iload_n S.1 S.2.1 d_L_source_6 rfl (lv_at hl 3 rfl) ?_
  refine kVi (n := 3) (b := 0) (As := [.int a, .int b, .int x]) (rest := [.int 0, .ref (ad 165)]) S hK hN hTK hJ hP0 hP hS (c_D_source hlf hJ5 v π n hB a b x) ⟨hU, t3_56, t3_53, t1_1, by decide +kernel, by decide, by decide⟩ t3_54 t3_55 (by decide) xg_desk rfl rfl rfl hl.1 rfl (Nat.le_of_ble_eq_true rfl) d_L_source_7 (by decide) (by decide) (fun r u H locs hp hP hS => ?_) (fun xa X u cell H locs hp hP hS h1 h2 h3 => ?_)
  · refine lv_i2l S.1 S.2.1 d_L_source_10 rfl ?_
    refine k_last S hK hJ hP hS d_L_source_11 (fun H locs hP hS => ?_)
    refine lv_goto (tgt := 23) S.1 S.2.1 d_L_source_12 (by decide) ?_
    refine lv_iconst (v := 0) S.1 S.2.1 d_L_source_23 (by decide) ?_
    exact tIret S hr hlk (u, fun j => if j = 0 then r.toInt64 else o0 j) (by decide) (by decide) hP hS (Or.inl ⟨rfl, r, hp, rfl⟩) d_L_source_24
  · obtain ⟨xe1, xe2, htab, ⟨e1, e2, e3, e4⟩, f1, f2, f3, f4⟩ := kTab2 hx
    have hX : X = tNS ∨ X = tIO := by grind
    rcases hX with hX | hX
    · subst hX
      refine kCatch1 S htab (by simp [covers, e1, e2]) (by rw [e4]; decide) (name := tNS) (by rw [e4]; exact hU _ kl_21) h1 h2 h3 ?_
      rw [e3]
      refine lv_astore (lv' := [(5, .ref xa), (0, .ref (ad 0)), (1, .int a), (2, .int b), (3, .int x), (4, .ref (ad 165))]) S.1 S.2.1 d_L_source_15 hl (by decide) rfl (fun ls hl => ?_)
      refine lv_iconst (v := 1) S.1 S.2.1 d_L_source_17 (by decide) ?_
      exact tIret S hr hlk (u, o0) (by decide) (by decide) hP hS (Or.inr (Or.inl ⟨rfl, hp⟩)) d_L_source_18
    · subst hX
      refine kCatch2 S htab (by simp [covers, e1, e2]) (by rw [e4]; decide) (by simp [covers, f1, f2]) (by rw [f4]; decide) (name := tIO) (name' := tNS) (by rw [e4]; exact hU _ kl_21) (by rw [f4]; exact hU _ kl_33) hNC (by simp [kPairs]) h1 h2 h3 ?_
      rw [f3]
      refine lv_astore (lv' := [(5, .ref xa), (0, .ref (ad 0)), (1, .int a), (2, .int b), (3, .int x), (4, .ref (ad 165))]) S.1 S.2.1 d_L_source_19 hl (by decide) rfl (fun ls hl => ?_)
      refine lv_iconst (v := 2) S.1 S.2.1 d_L_source_21 (by decide) ?_
      exact tIret S hr hlk (u, o0) (by decide) (by decide) hP hS (Or.inr (Or.inr ⟨rfl, hp⟩)) d_L_source_22

set_option maxRecDepth 100000 in
set_option maxHeartbeats 4000000 in
theorem c_L_cue {l : Launch} (hlf : l.flags = pinnedFlags ++ [noTraceFlag]) {D : va_G} {ca : Nat → ClassId} {ad : Nat → Nat} (hJ : uJ 166 ad) (v : Nat → Nat → Nat → Int32) (π : Nat → Nat) (n : Nat) (hB : xBk v π n) (a x2 x3 : Int32) (o0 : Nat → Int64) : kMi l y_L_cue b_L_cue 6 [(0, 12, 15, 33)] 7 111 1 6 D clsAll (tysAll ca) ca ad ((v, π), o0) [.ref (ad 0), .int a, .int x2, .int x3, .ref (ad 165)] (fun k z => (k = 0 ∧ ∃ r, (fun r u => u = (v, π) ∧ isLst a ∧ ((x2 = -1 ∧ x3 = 0 ∧ r = nI (pFor v π n (a + 1) 0) - nI (pFor v π n a 0)) ∨ (xCok (nI (pFor v π n (a + 1) 0) - nI (pFor v π n a 0)) x2 x3 ∧ r = cDet v (π (pFor v π n a 0 + x2.toNatClampNeg)) x3.toNatClampNeg))) r z.1 ∧ z.2 0 = r.toInt64) ∨ (k = 1 ∧ (fun X u => u = (v, π) ∧ X = tIO ∧ (¬ isLst a ∨ (isLst a ∧ ¬ (x2 = -1 ∧ x3 = 0) ∧ ¬ xCok (nI (pFor v π n (a + 1) 0) - nI (pFor v π n a 0)) x2 x3))) tIO z.1)) := by
  refine kStart (by decide) (Nat.le_of_ble_eq_true rfl) ?_
  intro p e s m below meth c ls S hr hlk hK hN hP hTK hNC hx hl
  have hJ5 : uJ 165 ad := fun i j hi hj => hJ i j (by omega) (by omega)
  have hP0 := hP
  have hU : ∀ w ∈ uWS, w ∈ (Cond.codeWith y_L_cue b_L_cue 6 (some .int) [(0, 12, 15, 33)] :: uWS) := fun w h => List.mem_cons_of_mem _ h
  have hS : va_S (uA 166 ad s.heap.size) s.heap s.heap [] := va_S.rf
  have hl : lv_has ls 6 [(0, .ref (ad 0)), (1, .int a), (2, .int x2), (3, .int x3), (4, .ref (ad 165))] := hl
  refine lv_aload S.1 S.2.1 d_L_cue_0 (lv_at hl 4 rfl) ?_
  refine lv_iconst (v := 0) S.1 S.2.1 d_L_cue_2 (by decide) ?_
  refine lv_aload_n S.1 S.2.1 d_L_cue_3 rfl (lv_at hl 0 rfl) ?_
  refine lv_iload_n S.1 S.2.1 d_L_cue_4 rfl (lv_at hl 1 rfl) ?_
  refine lv_iload_n S.1 S.2.1 d_L_cue_5 rfl (lv_at hl 2 rfl) ?_
  refine lv_iload_n S.1 S.2.1 d_L_cue_6 rfl (lv_at hl 3 rfl) ?_
  refine kVi (n := 3) (b := 0) (As := [.int a, .int x2, .int x3]) (rest := [.int 0, .ref (ad 165)]) S hK hN hTK hJ hP0 hP hS (c_D_cue hlf hJ5 v π n hB a x2 x3) ⟨hU, t3_64, t3_61, t1_1, by decide +kernel, by decide, by decide⟩ t3_62 t3_63 (by decide) xg_desk rfl rfl rfl hl.1 rfl (Nat.le_of_ble_eq_true rfl) d_L_cue_7 (by decide) (by decide) (fun r u H locs hp hP hS => ?_) (fun xa X u cell H locs hp hP hS h1 h2 h3 => ?_)
  · refine lv_i2l S.1 S.2.1 d_L_cue_10 rfl ?_
    refine k_last S hK hJ hP hS d_L_cue_11 (fun H locs hP hS => ?_)
    refine lv_goto (tgt := 19) S.1 S.2.1 d_L_cue_12 (by decide) ?_
    refine lv_iconst (v := 0) S.1 S.2.1 d_L_cue_19 (by decide) ?_
    exact tIret S hr hlk (u, fun j => if j = 0 then r.toInt64 else o0 j) (by decide) (by decide) hP hS (Or.inl ⟨rfl, r, hp, rfl⟩) d_L_cue_20
  · obtain ⟨xe1, htab, e1, e2, e3, e4⟩ := kTab1 hx
    have hX : X = tIO := by grind
    subst hX
    refine kCatch1 S htab (by simp [covers, e1, e2]) (by rw [e4]; decide) (name := tIO) (by rw [e4]; exact hU _ kl_33) h1 h2 h3 ?_
    rw [e3]
    refine lv_astore (lv' := [(5, .ref xa), (0, .ref (ad 0)), (1, .int a), (2, .int x2), (3, .int x3), (4, .ref (ad 165))]) S.1 S.2.1 d_L_cue_15 hl (by decide) rfl (fun ls hl => ?_)
    refine lv_iconst (v := 1) S.1 S.2.1 d_L_cue_17 (by decide) ?_
    exact tIret S hr hlk (u, o0) (by decide) (by decide) hP hS (Or.inr ⟨rfl, hp⟩) d_L_cue_18

set_option maxRecDepth 100000 in
set_option maxHeartbeats 4000000 in
theorem c_L_go {l : Launch} (hlf : l.flags = pinnedFlags ++ [noTraceFlag]) {D : va_G} {ca : Nat → ClassId} {ad : Nat → Nat} (hJ : uJ 166 ad) (v : Nat → Nat → Nat → Int32) (π : Nat → Nat) (M : Nat) (hM : M = 64) (n : Nat) (hB : xBk v π n) (Q6 : Nat) (h6 : Q6 = 6) (T1 : Nat) (hT1 : T1 = 1000) (x1 x2 t : Int32) (o0 : Nat → Int64) : kMi l y_L_go b_L_go 6 [(0, 12, 15, 13), (0, 12, 19, 21)] 7 164 1 6 D clsAll (tysAll ca) ca ad ((v, π), o0) [.ref (ad 0), .int x1, .int x2, .int t, .ref (ad 165)] (fun k z => (k = 0 ∧ ∃ r, (fun r u => (isPb x1 ∧ xTick v t) ∧ ∃ q, goQ (vTell v π n t M Q6 T1) π n x1.toNatClampNeg x2 = some q ∧ u = (vStart (vTell v π n t M Q6 T1) π x1.toNatClampNeg q t M, π) ∧ r = vStart (vTell v π n t M Q6 T1) π x1.toNatClampNeg q t M 27 x1.toNatClampNeg 0) r z.1 ∧ z.2 0 = r.toInt64) ∨ (k = 1 ∧ (fun X u => (¬ (isPb x1 ∧ xTick v t) ∧ u = (v, π) ∧ X = tIA) ∨ ((isPb x1 ∧ xTick v t) ∧ goQ (vTell v π n t M Q6 T1) π n x1.toNatClampNeg x2 = none ∧ u = ((vTell v π n t M Q6 T1), π) ∧ X = tNS)) tIA z.1) ∨ (k = 2 ∧ (fun X u => (¬ (isPb x1 ∧ xTick v t) ∧ u = (v, π) ∧ X = tIA) ∨ ((isPb x1 ∧ xTick v t) ∧ goQ (vTell v π n t M Q6 T1) π n x1.toNatClampNeg x2 = none ∧ u = ((vTell v π n t M Q6 T1), π) ∧ X = tNS)) tNS z.1)) := by
  refine kStart (by decide) (Nat.le_of_ble_eq_true rfl) ?_
  intro p e s m below meth c ls S hr hlk hK hN hP hTK hNC hx hl
  have hJ5 : uJ 165 ad := fun i j hi hj => hJ i j (by omega) (by omega)
  have hP0 := hP
  have hU : ∀ w ∈ uWS, w ∈ (Cond.codeWith y_L_go b_L_go 6 (some .int) [(0, 12, 15, 13), (0, 12, 19, 21)] :: uWS) := fun w h => List.mem_cons_of_mem _ h
  have hS : va_S (uA 166 ad s.heap.size) s.heap s.heap [] := va_S.rf
  have hl : lv_has ls 6 [(0, .ref (ad 0)), (1, .int x1), (2, .int x2), (3, .int t), (4, .ref (ad 165))] := hl
  refine lv_aload S.1 S.2.1 d_L_go_0 (lv_at hl 4 rfl) ?_
  refine lv_iconst (v := 0) S.1 S.2.1 d_L_go_2 (by decide) ?_
  refine lv_aload_n S.1 S.2.1 d_L_go_3 rfl (lv_at hl 0 rfl) ?_
  refine lv_iload_n S.1 S.2.1 d_L_go_4 rfl (lv_at hl 1 rfl) ?_
  refine lv_iload_n S.1 S.2.1 d_L_go_5 rfl (lv_at hl 2 rfl) ?_
  refine lv_iload_n S.1 S.2.1 d_L_go_6 rfl (lv_at hl 3 rfl) ?_
  refine kVi (n := 3) (b := 0) (As := [.int x1, .int x2, .int t]) (rest := [.int 0, .ref (ad 165)]) S hK hN hTK hJ hP0 hP hS (c_D_go hlf hJ5 v π M hM n hB Q6 h6 T1 hT1 x1 x2 t) ⟨hU, t3_86, t3_83, t1_1, by decide +kernel, by decide, by decide⟩ t3_84 t3_85 (by decide) xg_desk rfl rfl rfl hl.1 rfl (Nat.le_of_ble_eq_true rfl) d_L_go_7 (by decide) (by decide) (fun r u H locs hp hP hS => ?_) (fun xa X u cell H locs hp hP hS h1 h2 h3 => ?_)
  · refine lv_i2l S.1 S.2.1 d_L_go_10 rfl ?_
    refine k_last S hK hJ hP hS d_L_go_11 (fun H locs hP hS => ?_)
    refine lv_goto (tgt := 23) S.1 S.2.1 d_L_go_12 (by decide) ?_
    refine lv_iconst (v := 0) S.1 S.2.1 d_L_go_23 (by decide) ?_
    exact tIret S hr hlk (u, fun j => if j = 0 then r.toInt64 else o0 j) (by decide) (by decide) hP hS (Or.inl ⟨rfl, r, hp, rfl⟩) d_L_go_24
  · obtain ⟨xe1, xe2, htab, ⟨e1, e2, e3, e4⟩, f1, f2, f3, f4⟩ := kTab2 hx
    have hX : X = tIA ∨ X = tNS := by grind
    rcases hX with hX | hX
    · subst hX
      refine kCatch1 S htab (by simp [covers, e1, e2]) (by rw [e4]; decide) (name := tIA) (by rw [e4]; exact hU _ kl_13) h1 h2 h3 ?_
      rw [e3]
      refine lv_astore (lv' := [(5, .ref xa), (0, .ref (ad 0)), (1, .int x1), (2, .int x2), (3, .int t), (4, .ref (ad 165))]) S.1 S.2.1 d_L_go_15 hl (by decide) rfl (fun ls hl => ?_)
      refine lv_iconst (v := 1) S.1 S.2.1 d_L_go_17 (by decide) ?_
      exact tIret S hr hlk (u, o0) (by decide) (by decide) hP hS (Or.inr (Or.inl ⟨rfl, hp⟩)) d_L_go_18
    · subst hX
      refine kCatch2 S htab (by simp [covers, e1, e2]) (by rw [e4]; decide) (by simp [covers, f1, f2]) (by rw [f4]; decide) (name := tNS) (name' := tIA) (by rw [e4]; exact hU _ kl_13) (by rw [f4]; exact hU _ kl_21) hNC (by simp [kPairs]) h1 h2 h3 ?_
      rw [f3]
      refine lv_astore (lv' := [(5, .ref xa), (0, .ref (ad 0)), (1, .int x1), (2, .int x2), (3, .int t), (4, .ref (ad 165))]) S.1 S.2.1 d_L_go_19 hl (by decide) rfl (fun ls hl => ?_)
      refine lv_iconst (v := 2) S.1 S.2.1 d_L_go_21 (by decide) ?_
      exact tIret S hr hlk (u, o0) (by decide) (by decide) hP hS (Or.inr (Or.inr ⟨rfl, hp⟩)) d_L_go_22

set_option maxRecDepth 100000 in
set_option maxHeartbeats 4000000 in
theorem c_L_out {l : Launch} (hlf : l.flags = pinnedFlags ++ [noTraceFlag]) {D : va_G} {ca : Nat → ClassId} {ad : Nat → Nat} (hJ : uJ 166 ad) (v : Nat → Nat → Nat → Int32) (π : Nat → Nat) (M : Nat) (hM : M = 64) (n : Nat) (hB : xBk v π n) (Q6 : Nat) (h6 : Q6 = 6) (T1 : Nat) (hT1 : T1 = 1000) (x1 t : Int32) (o0 : Nat → Int64) : kMi l y_L_out b_L_out 5 [(0, 10, 13, 13)] 7 162 1 6 D clsAll (tysAll ca) ca ad ((v, π), o0) [.ref (ad 0), .int x1, .int t, .ref (ad 165)] (fun k z => (k = 0 ∧ ∃ r, (fun r u => (isCh x1 ∧ xTick v t) ∧ u = ((vTell v π n t M Q6 T1), π) ∧ r = outA (vTell v π n t M Q6 T1) x1.toNatClampNeg Q6) r z.1 ∧ z.2 0 = r.toInt64) ∨ (k = 1 ∧ (fun X u => ¬ (isCh x1 ∧ xTick v t) ∧ u = (v, π) ∧ X = tIA) tIA z.1)) := by
  refine kStart (by decide) (Nat.le_of_ble_eq_true rfl) ?_
  intro p e s m below meth c ls S hr hlk hK hN hP hTK hNC hx hl
  have hJ5 : uJ 165 ad := fun i j hi hj => hJ i j (by omega) (by omega)
  have hP0 := hP
  have hU : ∀ w ∈ uWS, w ∈ (Cond.codeWith y_L_out b_L_out 5 (some .int) [(0, 10, 13, 13)] :: uWS) := fun w h => List.mem_cons_of_mem _ h
  have hS : va_S (uA 166 ad s.heap.size) s.heap s.heap [] := va_S.rf
  have hl : lv_has ls 5 [(0, .ref (ad 0)), (1, .int x1), (2, .int t), (3, .ref (ad 165))] := hl
  refine lv_aload_n S.1 S.2.1 d_L_out_0 rfl (lv_at hl 3 rfl) ?_
  refine lv_iconst (v := 0) S.1 S.2.1 d_L_out_1 (by decide) ?_
  refine lv_aload_n S.1 S.2.1 d_L_out_2 rfl (lv_at hl 0 rfl) ?_
  refine lv_iload_n S.1 S.2.1 d_L_out_3 rfl (lv_at hl 1 rfl) ?_
  refine lv_iload_n S.1 S.2.1 d_L_out_4 rfl (lv_at hl 2 rfl) ?_
  refine kVi (n := 2) (b := 0) (As := [.int x1, .int t]) (rest := [.int 0, .ref (ad 165)]) S hK hN hTK hJ hP0 hP hS (c_D_out hlf hJ5 v π M hM n hB Q6 h6 T1 hT1 x1 t) ⟨hU, t3_126, t3_123, t1_1, by decide +kernel, by decide, by decide⟩ t3_124 t3_125 (by decide) xg_desk rfl rfl rfl hl.1 rfl (Nat.le_of_ble_eq_true rfl) d_L_out_5 (by decide) (by decide) (fun r u H locs hp hP hS => ?_) (fun xa X u cell H locs hp hP hS h1 h2 h3 => ?_)
  · refine lv_i2l S.1 S.2.1 d_L_out_8 rfl ?_
    refine k_last S hK hJ hP hS d_L_out_9 (fun H locs hP hS => ?_)
    refine lv_goto (tgt := 17) S.1 S.2.1 d_L_out_10 (by decide) ?_
    refine lv_iconst (v := 0) S.1 S.2.1 d_L_out_17 (by decide) ?_
    exact tIret S hr hlk (u, fun j => if j = 0 then r.toInt64 else o0 j) (by decide) (by decide) hP hS (Or.inl ⟨rfl, r, hp, rfl⟩) d_L_out_18
  · obtain ⟨xe1, htab, e1, e2, e3, e4⟩ := kTab1 hx
    have hX : X = tIA := by grind
    subst hX
    refine kCatch1 S htab (by simp [covers, e1, e2]) (by rw [e4]; decide) (name := tIA) (by rw [e4]; exact hU _ kl_13) h1 h2 h3 ?_
    rw [e3]
    refine lv_astore (lv' := [(4, .ref xa), (0, .ref (ad 0)), (1, .int x1), (2, .int t), (3, .ref (ad 165))]) S.1 S.2.1 d_L_out_13 hl (by decide) rfl (fun ls hl => ?_)
    refine lv_iconst (v := 1) S.1 S.2.1 d_L_out_15 (by decide) ?_
    exact tIret S hr hlk (u, o0) (by decide) (by decide) hP hS (Or.inr ⟨rfl, hp⟩) d_L_out_16

set_option maxRecDepth 100000 in
set_option maxHeartbeats 4000000 in
theorem c_L_playback {l : Launch} (hlf : l.flags = pinnedFlags ++ [noTraceFlag]) {D : va_G} {ca : Nat → ClassId} {ad : Nat → Nat} (hJ : uJ 166 ad) (v : Nat → Nat → Nat → Int32) (π : Nat → Nat) (x1 x2 : Int32) (o0 : Nat → Int64) : kMi l y_L_playback b_L_playback 5 [(0, 10, 13, 33)] 7 105 1 6 D clsAll (tysAll ca) ca ad ((v, π), o0) [.ref (ad 0), .int x1, .int x2, .ref (ad 165)] (fun k z => (k = 0 ∧ ∃ r, (fun r u => u = (v, π) ∧ xPbok x1 x2 ∧ r = xPbv v x1.toNatClampNeg x2) r z.1 ∧ z.2 0 = r.toInt64) ∨ (k = 1 ∧ (fun X u => u = (v, π) ∧ ¬ xPbok x1 x2 ∧ X = tIO) tIO z.1)) := by
  refine kStart (by decide) (Nat.le_of_ble_eq_true rfl) ?_
  intro p e s m below meth c ls S hr hlk hK hN hP hTK hNC hx hl
  have hJ5 : uJ 165 ad := fun i j hi hj => hJ i j (by omega) (by omega)
  have hP0 := hP
  have hU : ∀ w ∈ uWS, w ∈ (Cond.codeWith y_L_playback b_L_playback 5 (some .int) [(0, 10, 13, 33)] :: uWS) := fun w h => List.mem_cons_of_mem _ h
  have hS : va_S (uA 166 ad s.heap.size) s.heap s.heap [] := va_S.rf
  have hl : lv_has ls 5 [(0, .ref (ad 0)), (1, .int x1), (2, .int x2), (3, .ref (ad 165))] := hl
  refine lv_aload_n S.1 S.2.1 d_L_playback_0 rfl (lv_at hl 3 rfl) ?_
  refine lv_iconst (v := 0) S.1 S.2.1 d_L_playback_1 (by decide) ?_
  refine lv_aload_n S.1 S.2.1 d_L_playback_2 rfl (lv_at hl 0 rfl) ?_
  refine lv_iload_n S.1 S.2.1 d_L_playback_3 rfl (lv_at hl 1 rfl) ?_
  refine lv_iload_n S.1 S.2.1 d_L_playback_4 rfl (lv_at hl 2 rfl) ?_
  refine kVi (n := 2) (b := 0) (As := [.int x1, .int x2]) (rest := [.int 0, .ref (ad 165)]) S hK hN hTK hJ hP0 hP hS (c_D_playback hlf hJ5 v π x1 x2) ⟨hU, t3_151, t3_148, t1_1, by decide +kernel, by decide, by decide⟩ t3_149 t3_150 (by decide) xg_desk rfl rfl rfl hl.1 rfl (Nat.le_of_ble_eq_true rfl) d_L_playback_5 (by decide) (by decide) (fun r u H locs hp hP hS => ?_) (fun xa X u cell H locs hp hP hS h1 h2 h3 => ?_)
  · refine lv_i2l S.1 S.2.1 d_L_playback_8 rfl ?_
    refine k_last S hK hJ hP hS d_L_playback_9 (fun H locs hP hS => ?_)
    refine lv_goto (tgt := 17) S.1 S.2.1 d_L_playback_10 (by decide) ?_
    refine lv_iconst (v := 0) S.1 S.2.1 d_L_playback_17 (by decide) ?_
    exact tIret S hr hlk (u, fun j => if j = 0 then r.toInt64 else o0 j) (by decide) (by decide) hP hS (Or.inl ⟨rfl, r, hp, rfl⟩) d_L_playback_18
  · obtain ⟨xe1, htab, e1, e2, e3, e4⟩ := kTab1 hx
    have hX : X = tIO := by grind
    subst hX
    refine kCatch1 S htab (by simp [covers, e1, e2]) (by rw [e4]; decide) (name := tIO) (by rw [e4]; exact hU _ kl_33) h1 h2 h3 ?_
    rw [e3]
    refine lv_astore (lv' := [(4, .ref xa), (0, .ref (ad 0)), (1, .int x1), (2, .int x2), (3, .ref (ad 165))]) S.1 S.2.1 d_L_playback_13 hl (by decide) rfl (fun ls hl => ?_)
    refine lv_iconst (v := 1) S.1 S.2.1 d_L_playback_15 (by decide) ?_
    exact tIret S hr hlk (u, o0) (by decide) (by decide) hP hS (Or.inr ⟨rfl, hp⟩) d_L_playback_16

