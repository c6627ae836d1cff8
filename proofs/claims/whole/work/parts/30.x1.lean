/-! The class: methods without loops (printed by wip/gen/gen_x1.py) -/
set_option maxRecDepth 100000 in
set_option maxHeartbeats 4000000 in
theorem c_D_isChannel {l : Launch} {D : va_G} {ca : Nat → ClassId} {ad : Nat → Nat} (hJ : uJ 165 ad) (v : Nat → Nat → Nat → Int32) (π : Nat → Nat) (x0 : Int32) : uMi l y_D_isChannel b_D_isChannel 1 (some .boolean) 0 0 D clsAll (tysAll ca) 165 ad (xG ca ad) (v, π) [.int x0] (fun r u => u = (v, π) ∧ r = pI (isCh x0)) := by
  refine uStart (by decide) (Nat.le_of_ble_eq_true rfl) ?_
  intro p e s m below meth c ls S hr hlk hK hN hP hl
  have hU : ∀ w ∈ uWS, w ∈ (Cond.code y_D_isChannel b_D_isChannel 1 (some .boolean) :: uWS) := fun w h => List.mem_cons_of_mem _ h
  have hS : va_S (uA 165 ad s.heap.size) s.heap s.heap [] := va_S.rf
  have hl : lv_has ls 1 [(0, .int x0)] := hl
  refine lv_iload_n S.1 S.2.1 d_D_isChannel_0 rfl (lv_at hl 0 rfl) ?_
  refine lv_if_lt (tgt := 14) S.1 S.2.1 d_D_isChannel_1 (by decide) (fun c_1 => ?_) (fun c_1 => ?_)
  · refine lv_iconst (v := 0) S.1 S.2.1 d_D_isChannel_14 (by decide) ?_
    exact uZret S hr hlk rfl (v, π) hP hS (by refine ⟨rfl, ?_⟩; simp [pI, c_1]) d_D_isChannel_15
  · refine lv_iload_n S.1 S.2.1 d_D_isChannel_4 rfl (lv_at hl 0 rfl) ?_
    refine lv_bipush (v := 64) S.1 S.2.1 d_D_isChannel_5 (by decide) ?_
    refine lv_icmp_ge (tgt := 14) S.1 S.2.1 d_D_isChannel_7 (by decide) (fun c_2 => ?_) (fun c_2 => ?_)
    · refine lv_iconst (v := 0) S.1 S.2.1 d_D_isChannel_14 (by decide) ?_
      exact uZret S hr hlk rfl (v, π) hP hS (by refine ⟨rfl, ?_⟩; simp [pI, c_1, c_2]) d_D_isChannel_15
    · refine lv_iconst (v := 1) S.1 S.2.1 d_D_isChannel_10 (by decide) ?_
      refine lv_goto (tgt := 15) S.1 S.2.1 d_D_isChannel_11 (by decide) ?_
      exact uZret S hr hlk rfl (v, π) hP hS (by refine ⟨rfl, ?_⟩; simp [pI, c_1, c_2]) d_D_isChannel_15

set_option maxRecDepth 100000 in
set_option maxHeartbeats 4000000 in
theorem c_D_isLevel {l : Launch} {D : va_G} {ca : Nat → ClassId} {ad : Nat → Nat} (hJ : uJ 165 ad) (v : Nat → Nat → Nat → Int32) (π : Nat → Nat) (x0 : Int32) : uMi l y_D_isLevel b_D_isLevel 1 (some .boolean) 0 0 D clsAll (tysAll ca) 165 ad (xG ca ad) (v, π) [.int x0] (fun r u => u = (v, π) ∧ r = pI (isLv x0)) := by
  refine uStart (by decide) (Nat.le_of_ble_eq_true rfl) ?_
  intro p e s m below meth c ls S hr hlk hK hN hP hl
  have hU : ∀ w ∈ uWS, w ∈ (Cond.code y_D_isLevel b_D_isLevel 1 (some .boolean) :: uWS) := fun w h => List.mem_cons_of_mem _ h
  have hS : va_S (uA 165 ad s.heap.size) s.heap s.heap [] := va_S.rf
  have hl : lv_has ls 1 [(0, .int x0)] := hl
  refine lv_iload_n S.1 S.2.1 d_D_isLevel_0 rfl (lv_at hl 0 rfl) ?_
  refine lv_if_lt (tgt := 15) S.1 S.2.1 d_D_isLevel_1 (by decide) (fun c_1 => ?_) (fun c_1 => ?_)
  · refine lv_iconst (v := 0) S.1 S.2.1 d_D_isLevel_15 (by decide) ?_
    exact uZret S hr hlk rfl (v, π) hP hS (by refine ⟨rfl, ?_⟩; simp [pI, c_1]) d_D_isLevel_16
  · refine lv_iload_n S.1 S.2.1 d_D_isLevel_4 rfl (lv_at hl 0 rfl) ?_
    refine lv_sipush (v := 255) S.1 S.2.1 d_D_isLevel_5 (by decide) ?_
    refine lv_icmp_gt (tgt := 15) S.1 S.2.1 d_D_isLevel_8 (by decide) (fun c_2 => ?_) (fun c_2 => ?_)
    · refine lv_iconst (v := 0) S.1 S.2.1 d_D_isLevel_15 (by decide) ?_
      exact uZret S hr hlk rfl (v, π) hP hS (by refine ⟨rfl, ?_⟩; simp [pI, c_1, c_2]) d_D_isLevel_16
    · refine lv_iconst (v := 1) S.1 S.2.1 d_D_isLevel_11 (by decide) ?_
      refine lv_goto (tgt := 16) S.1 S.2.1 d_D_isLevel_12 (by decide) ?_
      exact uZret S hr hlk rfl (v, π) hP hS (by refine ⟨rfl, ?_⟩; simp [pI, c_1, c_2]) d_D_isLevel_16

set_option maxRecDepth 100000 in
set_option maxHeartbeats 4000000 in
theorem c_D_isPalette {l : Launch} {D : va_G} {ca : Nat → ClassId} {ad : Nat → Nat} (hJ : uJ 165 ad) (v : Nat → Nat → Nat → Int32) (π : Nat → Nat) (x0 : Int32) : uMi l y_D_isPalette b_D_isPalette 1 (some .boolean) 0 0 D clsAll (tysAll ca) 165 ad (xG ca ad) (v, π) [.int x0] (fun r u => u = (v, π) ∧ r = pI (isPal x0)) := by
  refine uStart (by decide) (Nat.le_of_ble_eq_true rfl) ?_
  intro p e s m below meth c ls S hr hlk hK hN hP hl
  have hU : ∀ w ∈ uWS, w ∈ (Cond.code y_D_isPalette b_D_isPalette 1 (some .boolean) :: uWS) := fun w h => List.mem_cons_of_mem _ h
  have hS : va_S (uA 165 ad s.heap.size) s.heap s.heap [] := va_S.rf
  have hl : lv_has ls 1 [(0, .int x0)] := hl
  refine lv_iload_n S.1 S.2.1 d_D_isPalette_0 rfl (lv_at hl 0 rfl) ?_
  refine lv_if_lt (tgt := 14) S.1 S.2.1 d_D_isPalette_1 (by decide) (fun c_1 => ?_) (fun c_1 => ?_)
  · refine lv_iconst (v := 0) S.1 S.2.1 d_D_isPalette_14 (by decide) ?_
    exact uZret S hr hlk rfl (v, π) hP hS (by refine ⟨rfl, ?_⟩; simp [pI, c_1]) d_D_isPalette_15
  · refine lv_iload_n S.1 S.2.1 d_D_isPalette_4 rfl (lv_at hl 0 rfl) ?_
    refine lv_bipush (v := 16) S.1 S.2.1 d_D_isPalette_5 (by decide) ?_
    refine lv_icmp_ge (tgt := 14) S.1 S.2.1 d_D_isPalette_7 (by decide) (fun c_2 => ?_) (fun c_2 => ?_)
    · refine lv_iconst (v := 0) S.1 S.2.1 d_D_isPalette_14 (by decide) ?_
      exact uZret S hr hlk rfl (v, π) hP hS (by refine ⟨rfl, ?_⟩; simp [pI, c_1, c_2]) d_D_isPalette_15
    · refine lv_iconst (v := 1) S.1 S.2.1 d_D_isPalette_10 (by decide) ?_
      refine lv_goto (tgt := 15) S.1 S.2.1 d_D_isPalette_11 (by decide) ?_
      exact uZret S hr hlk rfl (v, π) hP hS (by refine ⟨rfl, ?_⟩; simp [pI, c_1, c_2]) d_D_isPalette_15

set_option maxRecDepth 100000 in
set_option maxHeartbeats 4000000 in
theorem c_D_isList {l : Launch} {D : va_G} {ca : Nat → ClassId} {ad : Nat → Nat} (hJ : uJ 165 ad) (v : Nat → Nat → Nat → Int32) (π : Nat → Nat) (x0 : Int32) : uMi l y_D_isList b_D_isList 1 (some .boolean) 0 0 D clsAll (tysAll ca) 165 ad (xG ca ad) (v, π) [.int x0] (fun r u => u = (v, π) ∧ r = pI (isLst x0)) := by
  refine uStart (by decide) (Nat.le_of_ble_eq_true rfl) ?_
  intro p e s m below meth c ls S hr hlk hK hN hP hl
  have hU : ∀ w ∈ uWS, w ∈ (Cond.code y_D_isList b_D_isList 1 (some .boolean) :: uWS) := fun w h => List.mem_cons_of_mem _ h
  have hS : va_S (uA 165 ad s.heap.size) s.heap s.heap [] := va_S.rf
  have hl : lv_has ls 1 [(0, .int x0)] := hl
  refine lv_iload_n S.1 S.2.1 d_D_isList_0 rfl (lv_at hl 0 rfl) ?_
  refine lv_if_lt (tgt := 13) S.1 S.2.1 d_D_isList_1 (by decide) (fun c_1 => ?_) (fun c_1 => ?_)
  · refine lv_iconst (v := 0) S.1 S.2.1 d_D_isList_13 (by decide) ?_
    exact uZret S hr hlk rfl (v, π) hP hS (by refine ⟨rfl, ?_⟩; simp [pI, c_1]) d_D_isList_14
  · refine lv_iload_n S.1 S.2.1 d_D_isList_4 rfl (lv_at hl 0 rfl) ?_
    refine lv_iconst (v := 4) S.1 S.2.1 d_D_isList_5 (by decide) ?_
    refine lv_icmp_ge (tgt := 13) S.1 S.2.1 d_D_isList_6 (by decide) (fun c_2 => ?_) (fun c_2 => ?_)
    · refine lv_iconst (v := 0) S.1 S.2.1 d_D_isList_13 (by decide) ?_
      exact uZret S hr hlk rfl (v, π) hP hS (by refine ⟨rfl, ?_⟩; simp [pI, c_1, c_2]) d_D_isList_14
    · refine lv_iconst (v := 1) S.1 S.2.1 d_D_isList_9 (by decide) ?_
      refine lv_goto (tgt := 14) S.1 S.2.1 d_D_isList_10 (by decide) ?_
      exact uZret S hr hlk rfl (v, π) hP hS (by refine ⟨rfl, ?_⟩; simp [pI, c_1, c_2]) d_D_isList_14

set_option maxRecDepth 100000 in
set_option maxHeartbeats 4000000 in
theorem c_D_isNumber {l : Launch} {D : va_G} {ca : Nat → ClassId} {ad : Nat → Nat} (hJ : uJ 165 ad) (v : Nat → Nat → Nat → Int32) (π : Nat → Nat) (x0 : Int32) : uMi l y_D_isNumber b_D_isNumber 1 (some .boolean) 0 0 D clsAll (tysAll ca) 165 ad (xG ca ad) (v, π) [.int x0] (fun r u => u = (v, π) ∧ r = pI (isNum x0)) := by
  refine uStart (by decide) (Nat.le_of_ble_eq_true rfl) ?_
  intro p e s m below meth c ls S hr hlk hK hN hP hl
  have hU : ∀ w ∈ uWS, w ∈ (Cond.code y_D_isNumber b_D_isNumber 1 (some .boolean) :: uWS) := fun w h => List.mem_cons_of_mem _ h
  have hS : va_S (uA 165 ad s.heap.size) s.heap s.heap [] := va_S.rf
  have hl : lv_has ls 1 [(0, .int x0)] := hl
  refine lv_iload_n S.1 S.2.1 d_D_isNumber_0 rfl (lv_at hl 0 rfl) ?_
  refine lv_iconst (v := 1) S.1 S.2.1 d_D_isNumber_1 (by decide) ?_
  refine lv_icmp_lt (tgt := 16) S.1 S.2.1 d_D_isNumber_2 (by decide) (fun c_1 => ?_) (fun c_1 => ?_)
  · refine lv_iconst (v := 0) S.1 S.2.1 d_D_isNumber_16 (by decide) ?_
    exact uZret S hr hlk rfl (v, π) hP hS (by refine ⟨rfl, ?_⟩; simp [pI, c_1]) d_D_isNumber_17
  · refine lv_iload_n S.1 S.2.1 d_D_isNumber_5 rfl (lv_at hl 0 rfl) ?_
    refine lv_sipush (v := 9999) S.1 S.2.1 d_D_isNumber_6 (by decide) ?_
    refine lv_icmp_gt (tgt := 16) S.1 S.2.1 d_D_isNumber_9 (by decide) (fun c_2 => ?_) (fun c_2 => ?_)
    · refine lv_iconst (v := 0) S.1 S.2.1 d_D_isNumber_16 (by decide) ?_
      exact uZret S hr hlk rfl (v, π) hP hS (by refine ⟨rfl, ?_⟩; simp [pI, c_1, c_2]) d_D_isNumber_17
    · refine lv_iconst (v := 1) S.1 S.2.1 d_D_isNumber_12 (by decide) ?_
      refine lv_goto (tgt := 17) S.1 S.2.1 d_D_isNumber_13 (by decide) ?_
      exact uZret S hr hlk rfl (v, π) hP hS (by refine ⟨rfl, ?_⟩; simp [pI, c_1, c_2]) d_D_isNumber_17

set_option maxRecDepth 100000 in
set_option maxHeartbeats 4000000 in
theorem c_D_isPlayback {l : Launch} {D : va_G} {ca : Nat → ClassId} {ad : Nat → Nat} (hJ : uJ 165 ad) (v : Nat → Nat → Nat → Int32) (π : Nat → Nat) (x0 : Int32) : uMi l y_D_isPlayback b_D_isPlayback 1 (some .boolean) 0 0 D clsAll (tysAll ca) 165 ad (xG ca ad) (v, π) [.int x0] (fun r u => u = (v, π) ∧ r = pI (isPb x0)) := by
  refine uStart (by decide) (Nat.le_of_ble_eq_true rfl) ?_
  intro p e s m below meth c ls S hr hlk hK hN hP hl
  have hU : ∀ w ∈ uWS, w ∈ (Cond.code y_D_isPlayback b_D_isPlayback 1 (some .boolean) :: uWS) := fun w h => List.mem_cons_of_mem _ h
  have hS : va_S (uA 165 ad s.heap.size) s.heap s.heap [] := va_S.rf
  have hl : lv_has ls 1 [(0, .int x0)] := hl
  refine lv_iload_n S.1 S.2.1 d_D_isPlayback_0 rfl (lv_at hl 0 rfl) ?_
  refine lv_if_lt (tgt := 14) S.1 S.2.1 d_D_isPlayback_1 (by decide) (fun c_1 => ?_) (fun c_1 => ?_)
  · refine lv_iconst (v := 0) S.1 S.2.1 d_D_isPlayback_14 (by decide) ?_
    exact uZret S hr hlk rfl (v, π) hP hS (by refine ⟨rfl, ?_⟩; simp [pI, c_1]) d_D_isPlayback_15
  · refine lv_iload_n S.1 S.2.1 d_D_isPlayback_4 rfl (lv_at hl 0 rfl) ?_
    refine lv_bipush (v := 6) S.1 S.2.1 d_D_isPlayback_5 (by decide) ?_
    refine lv_icmp_ge (tgt := 14) S.1 S.2.1 d_D_isPlayback_7 (by decide) (fun c_2 => ?_) (fun c_2 => ?_)
    · refine lv_iconst (v := 0) S.1 S.2.1 d_D_isPlayback_14 (by decide) ?_
      exact uZret S hr hlk rfl (v, π) hP hS (by refine ⟨rfl, ?_⟩; simp [pI, c_1, c_2]) d_D_isPlayback_15
    · refine lv_iconst (v := 1) S.1 S.2.1 d_D_isPlayback_10 (by decide) ?_
      refine lv_goto (tgt := 15) S.1 S.2.1 d_D_isPlayback_11 (by decide) ?_
      exact uZret S hr hlk rfl (v, π) hP hS (by refine ⟨rfl, ?_⟩; simp [pI, c_1, c_2]) d_D_isPlayback_15

set_option maxRecDepth 100000 in
set_option maxHeartbeats 4000000 in
theorem c_D_isTime {l : Launch} {D : va_G} {ca : Nat → ClassId} {ad : Nat → Nat} (hJ : uJ 165 ad) (v : Nat → Nat → Nat → Int32) (π : Nat → Nat) (x0 : Int32) : uMi l y_D_isTime b_D_isTime 1 (some .boolean) 0 0 D clsAll (tysAll ca) 165 ad (xG ca ad) (v, π) [.int x0] (fun r u => u = (v, π) ∧ r = pI (isTm x0)) := by
  refine uStart (by decide) (Nat.le_of_ble_eq_true rfl) ?_
  intro p e s m below meth c ls S hr hlk hK hN hP hl
  have hU : ∀ w ∈ uWS, w ∈ (Cond.code y_D_isTime b_D_isTime 1 (some .boolean) :: uWS) := fun w h => List.mem_cons_of_mem _ h
  have hS : va_S (uA 165 ad s.heap.size) s.heap s.heap [] := va_S.rf
  have hl : lv_has ls 1 [(0, .int x0)] := hl
  refine lv_iload_n S.1 S.2.1 d_D_isTime_0 rfl (lv_at hl 0 rfl) ?_
  refine lv_if_lt (tgt := 15) S.1 S.2.1 d_D_isTime_1 (by decide) (fun c_1 => ?_) (fun c_1 => ?_)
  · refine lv_iconst (v := 0) S.1 S.2.1 d_D_isTime_15 (by decide) ?_
    exact uZret S hr hlk rfl (v, π) hP hS (by refine ⟨rfl, ?_⟩; simp [pI, c_1]) d_D_isTime_16
  · refine lv_iload_n S.1 S.2.1 d_D_isTime_4 rfl (lv_at hl 0 rfl) ?_
    refine lv_sipush (v := 10000) S.1 S.2.1 d_D_isTime_5 (by decide) ?_
    refine lv_icmp_gt (tgt := 15) S.1 S.2.1 d_D_isTime_8 (by decide) (fun c_2 => ?_) (fun c_2 => ?_)
    · refine lv_iconst (v := 0) S.1 S.2.1 d_D_isTime_15 (by decide) ?_
      exact uZret S hr hlk rfl (v, π) hP hS (by refine ⟨rfl, ?_⟩; simp [pI, c_1, c_2]) d_D_isTime_16
    · refine lv_iconst (v := 1) S.1 S.2.1 d_D_isTime_11 (by decide) ?_
      refine lv_goto (tgt := 16) S.1 S.2.1 d_D_isTime_12 (by decide) ?_
      exact uZret S hr hlk rfl (v, π) hP hS (by refine ⟨rfl, ?_⟩; simp [pI, c_1, c_2]) d_D_isTime_16

set_option maxRecDepth 100000 in
set_option maxHeartbeats 4000000 in
theorem c_V_has {l : Launch} {D : va_G} {ca : Nat → ClassId} {ad : Nat → Nat} (hJ : uJ 165 ad) (v : Nat → Nat → Nat → Int32) (π : Nat → Nat) (j ch : Nat) (hj : j < 41) (hch : ch < 64) : uMi l y_V_has b_V_has 2 (some .boolean) 0 0 D clsAll (tysAll ca) 165 ad (xG ca ad) (v, π) [.ref (ad (7 + 2 * j)), .int (nI ch)] (fun r u => u = (v, π) ∧ r = pI (¬ v 17 j ch = -1)) := by
  refine uStart (by decide) (Nat.le_of_ble_eq_true rfl) ?_
  intro p e s m below meth c ls S hr hlk hK hN hP hl
  have hU : ∀ w ∈ uWS, w ∈ (Cond.code y_V_has b_V_has 2 (some .boolean) :: uWS) := fun w h => List.mem_cons_of_mem _ h
  have hS : va_S (uA 165 ad s.heap.size) s.heap s.heap [] := va_S.rf
  have hl : lv_has ls 2 [(0, .ref (ad (7 + 2 * j))), (1, .int (nI ch))] := hl
  refine lv_aload_n S.1 S.2.1 d_V_has_0 rfl (lv_at hl 0 rfl) ?_
  refine ur_get (k := (7 + 2 * j)) (v := .ref (ad (8 + 2 * j))) S hK hP (kb_V hj) (xg_row hj) rfl (fun w h => hU w (in_V w h)) 0 (by decide) (hU _ t1_35) rfl d_V_has_1 ?_
  refine lv_iload_n S.1 S.2.1 d_V_has_4 rfl (lv_at hl 1 rfl) ?_
  refine ur_iald (k := (8 + 2 * j)) (f := (v 17 j)) (j := ch) S hK hP (kb_W hj) 0 (xg_val hj) rfl rfl hch (by decide) d_V_has_5 ?_
  refine lv_iconst (v := (-1)) S.1 S.2.1 d_V_has_6 (by decide) ?_
  refine lv_icmp_eq (tgt := 14) S.1 S.2.1 d_V_has_7 (by decide) (fun c_1 => ?_) (fun c_1 => ?_)
  · refine lv_iconst (v := 0) S.1 S.2.1 d_V_has_14 (by decide) ?_
    exact uZret S hr hlk rfl (v, π) hP hS (by refine ⟨rfl, ?_⟩; simp [pI, c_1]) d_V_has_15
  · refine lv_iconst (v := 1) S.1 S.2.1 d_V_has_10 (by decide) ?_
    refine lv_goto (tgt := 15) S.1 S.2.1 d_V_has_11 (by decide) ?_
    exact uZret S hr hlk rfl (v, π) hP hS (by refine ⟨rfl, ?_⟩; simp [pI, c_1]) d_V_has_15

set_option maxRecDepth 100000 in
set_option maxHeartbeats 4000000 in
theorem c_V_valueAt {l : Launch} {D : va_G} {ca : Nat → ClassId} {ad : Nat → Nat} (hJ : uJ 165 ad) (v : Nat → Nat → Nat → Int32) (π : Nat → Nat) (j ch : Nat) (hj : j < 41) (hch : ch < 64) : uMi l y_V_valueAt b_V_valueAt 2 (some .int) 0 0 D clsAll (tysAll ca) 165 ad (xG ca ad) (v, π) [.ref (ad (7 + 2 * j)), .int (nI ch)] (fun r u => u = (v, π) ∧ r = v 17 j ch) := by
  refine uStart (by decide) (Nat.le_of_ble_eq_true rfl) ?_
  intro p e s m below meth c ls S hr hlk hK hN hP hl
  have hU : ∀ w ∈ uWS, w ∈ (Cond.code y_V_valueAt b_V_valueAt 2 (some .int) :: uWS) := fun w h => List.mem_cons_of_mem _ h
  have hS : va_S (uA 165 ad s.heap.size) s.heap s.heap [] := va_S.rf
  have hl : lv_has ls 2 [(0, .ref (ad (7 + 2 * j))), (1, .int (nI ch))] := hl
  refine lv_aload_n S.1 S.2.1 d_V_valueAt_0 rfl (lv_at hl 0 rfl) ?_
  refine ur_get (k := (7 + 2 * j)) (v := .ref (ad (8 + 2 * j))) S hK hP (kb_V hj) (xg_row hj) rfl (fun w h => hU w (in_V w h)) 0 (by decide) (hU _ t1_35) rfl d_V_valueAt_1 ?_
  refine lv_iload_n S.1 S.2.1 d_V_valueAt_4 rfl (lv_at hl 1 rfl) ?_
  refine ur_iald (k := (8 + 2 * j)) (f := (v 17 j)) (j := ch) S hK hP (kb_W hj) 0 (xg_val hj) rfl rfl hch (by decide) d_V_valueAt_5 ?_
  exact uIret S hr hlk (v, π) hP hS (by refine ⟨rfl, ?_⟩; simp [pI]) d_V_valueAt_6

set_option maxRecDepth 100000 in
set_option maxHeartbeats 4000000 in
theorem c_V_put {l : Launch} {D : va_G} {ca : Nat → ClassId} {ad : Nat → Nat} (hJ : uJ 165 ad) (v : Nat → Nat → Nat → Int32) (π : Nat → Nat) (j ch : Nat) (hj : j < 41) (hch : ch < 64) (x : Int32) : uMv l y_V_put b_V_put 3 (none : Option Jvm.ClassFile.FieldType) 0 0 D clsAll (tysAll ca) 165 ad (xG ca ad) (v, π) [.ref (ad (7 + 2 * j)), .int (nI ch), .int x] (fun u => u = (vPut v j ch x, π)) := by
  refine uStart (by decide) (Nat.le_of_ble_eq_true rfl) ?_
  intro p e s m below meth c ls S hr hlk hK hN hP hl
  have hU : ∀ w ∈ uWS, w ∈ (Cond.code y_V_put b_V_put 3 (none : Option Jvm.ClassFile.FieldType) :: uWS) := fun w h => List.mem_cons_of_mem _ h
  have hS : va_S (uA 165 ad s.heap.size) s.heap s.heap [] := va_S.rf
  have hl : lv_has ls 3 [(0, .ref (ad (7 + 2 * j))), (1, .int (nI ch)), (2, .int x)] := hl
  refine lv_aload_n S.1 S.2.1 d_V_put_0 rfl (lv_at hl 0 rfl) ?_
  refine ur_get (k := (7 + 2 * j)) (v := .ref (ad (8 + 2 * j))) S hK hP (kb_V hj) (xg_row hj) rfl (fun w h => hU w (in_V w h)) 0 (by decide) (hU _ t1_35) rfl d_V_put_1 ?_
  refine lv_iload_n S.1 S.2.1 d_V_put_4 rfl (lv_at hl 1 rfl) ?_
  refine ur_iald (k := (8 + 2 * j)) (f := (v 17 j)) (j := ch) S hK hP (kb_W hj) 0 (xg_val hj) rfl rfl hch (by decide) d_V_put_5 ?_
  refine lv_iconst (v := (-1)) S.1 S.2.1 d_V_put_6 (by decide) ?_
  refine lv_icmp_ne (tgt := 20) S.1 S.2.1 d_V_put_7 (by decide) (fun c_1 => ?_) (fun c_1 => ?_)
  · refine lv_aload_n S.1 S.2.1 d_V_put_20 rfl (lv_at hl 0 rfl) ?_
    refine ur_get (k := (7 + 2 * j)) (v := .ref (ad (8 + 2 * j))) S hK hP (kb_V hj) (xg_row hj) rfl (fun w h => hU w (in_V w h)) 0 (by decide) (hU _ t1_35) rfl d_V_put_21 ?_
    refine lv_iload_n S.1 S.2.1 d_V_put_24 rfl (lv_at hl 1 rfl) ?_
    refine lv_iload_n S.1 S.2.1 d_V_put_25 rfl (lv_at hl 2 rfl) ?_
    refine ur_iast (k := (8 + 2 * j)) (f := (v 17 j)) (j := ch) (g' := xG ca ad (up3 v 17 j ch x, π)) S hK hP (uD _ hJ) hS (kb_W hj) 0 (xg_val hj) rfl rfl hch (by decide) (xs_val hj) d_V_put_26 (fun H locs hP hS => ?_)
    exact uVret S hr hlk ((up3 v 17 j ch x), π) hP hS (by simp [vPut, c_1]) d_V_put_27
  · refine lv_aload_n S.1 S.2.1 d_V_put_10 rfl (lv_at hl 0 rfl) ?_
    refine lv_dup S.1 S.2.1 d_V_put_11 rfl ?_
    refine ur_get (k := (7 + 2 * j)) (v := .int (v 16 j 0)) S hK hP (kb_V hj) (xg_row hj) rfl (fun w h => hU w (in_V w h)) 1 (by decide) (hU _ t1_36) rfl d_V_put_12 ?_
    refine lv_iconst (v := 1) S.1 S.2.1 d_V_put_15 (by decide) ?_
    refine lv_iadd S.1 S.2.1 d_V_put_16 ?_
    refine lv_topi (fun x_2 ex_2 => ?_)
    refine ur_put (k := (7 + 2 * j)) (v := .int x_2) (g' := xG ca ad (up3 v 16 j 0 x_2, π)) S hK hP (uD _ hJ) hS (kb_V hj) (xg_row hj) rfl (fun w h => hU w (in_V w h)) ty_V tyk_V nm_V 1 (by decide) (hU _ t1_36) rfl rfl rfl (Nat.le_of_ble_eq_true rfl) (xs_held hj) d_V_put_17 (fun H locs hP hS => ?_)
    refine lv_aload_n S.1 S.2.1 d_V_put_20 rfl (lv_at hl 0 rfl) ?_
    refine ur_get (k := (7 + 2 * j)) (v := .ref (ad (8 + 2 * j))) S hK hP (kb_V hj) (xg_row hj) rfl (fun w h => hU w (in_V w h)) 0 (by decide) (hU _ t1_35) rfl d_V_put_21 ?_
    refine lv_iload_n S.1 S.2.1 d_V_put_24 rfl (lv_at hl 1 rfl) ?_
    refine lv_iload_n S.1 S.2.1 d_V_put_25 rfl (lv_at hl 2 rfl) ?_
    refine ur_iast (k := (8 + 2 * j)) (f := ((up3 v 16 j 0 x_2) 17 j)) (j := ch) (g' := xG ca ad (up3 (up3 v 16 j 0 x_2) 17 j ch x, π)) S hK hP (uD _ hJ) hS (kb_W hj) 0 (xg_val hj) rfl rfl hch (by decide) (xs_val hj) d_V_put_26 (fun H locs hP hS => ?_)
    exact uVret S hr hlk ((up3 (up3 v 16 j 0 x_2) 17 j ch x), π) hP hS (by simp [vPut, c_1, ex_2]) d_V_put_27

set_option maxRecDepth 100000 in
set_option maxHeartbeats 4000000 in
theorem c_V_drop {l : Launch} {D : va_G} {ca : Nat → ClassId} {ad : Nat → Nat} (hJ : uJ 165 ad) (v : Nat → Nat → Nat → Int32) (π : Nat → Nat) (j ch : Nat) (hj : j < 41) (hch : ch < 64) : uMv l y_V_drop b_V_drop 2 (none : Option Jvm.ClassFile.FieldType) 0 0 D clsAll (tysAll ca) 165 ad (xG ca ad) (v, π) [.ref (ad (7 + 2 * j)), .int (nI ch)] (fun u => u = (vDrop v j ch, π)) := by
  refine uStart (by decide) (Nat.le_of_ble_eq_true rfl) ?_
  intro p e s m below meth c ls S hr hlk hK hN hP hl
  have hU : ∀ w ∈ uWS, w ∈ (Cond.code y_V_drop b_V_drop 2 (none : Option Jvm.ClassFile.FieldType) :: uWS) := fun w h => List.mem_cons_of_mem _ h
  have hS : va_S (uA 165 ad s.heap.size) s.heap s.heap [] := va_S.rf
  have hl : lv_has ls 2 [(0, .ref (ad (7 + 2 * j))), (1, .int (nI ch))] := hl
  refine lv_aload_n S.1 S.2.1 d_V_drop_0 rfl (lv_at hl 0 rfl) ?_
  refine ur_get (k := (7 + 2 * j)) (v := .ref (ad (8 + 2 * j))) S hK hP (kb_V hj) (xg_row hj) rfl (fun w h => hU w (in_V w h)) 0 (by decide) (hU _ t1_35) rfl d_V_drop_1 ?_
  refine lv_iload_n S.1 S.2.1 d_V_drop_4 rfl (lv_at hl 1 rfl) ?_
  refine ur_iald (k := (8 + 2 * j)) (f := (v 17 j)) (j := ch) S hK hP (kb_W hj) 0 (xg_val hj) rfl rfl hch (by decide) d_V_drop_5 ?_
  refine lv_iconst (v := (-1)) S.1 S.2.1 d_V_drop_6 (by decide) ?_
  refine lv_icmp_eq (tgt := 20) S.1 S.2.1 d_V_drop_7 (by decide) (fun c_1 => ?_) (fun c_1 => ?_)
  · refine lv_aload_n S.1 S.2.1 d_V_drop_20 rfl (lv_at hl 0 rfl) ?_
    refine ur_get (k := (7 + 2 * j)) (v := .ref (ad (8 + 2 * j))) S hK hP (kb_V hj) (xg_row hj) rfl (fun w h => hU w (in_V w h)) 0 (by decide) (hU _ t1_35) rfl d_V_drop_21 ?_
    refine lv_iload_n S.1 S.2.1 d_V_drop_24 rfl (lv_at hl 1 rfl) ?_
    refine lv_iconst (v := (-1)) S.1 S.2.1 d_V_drop_25 (by decide) ?_
    refine ur_iast (k := (8 + 2 * j)) (f := (v 17 j)) (j := ch) (g' := xG ca ad (up3 v 17 j ch (-1), π)) S hK hP (uD _ hJ) hS (kb_W hj) 0 (xg_val hj) rfl rfl hch (by decide) (xs_val hj) d_V_drop_26 (fun H locs hP hS => ?_)
    exact uVret S hr hlk ((up3 v 17 j ch (-1)), π) hP hS (by simp [vDrop, c_1]) d_V_drop_27
  · refine lv_aload_n S.1 S.2.1 d_V_drop_10 rfl (lv_at hl 0 rfl) ?_
    refine lv_dup S.1 S.2.1 d_V_drop_11 rfl ?_
    refine ur_get (k := (7 + 2 * j)) (v := .int (v 16 j 0)) S hK hP (kb_V hj) (xg_row hj) rfl (fun w h => hU w (in_V w h)) 1 (by decide) (hU _ t1_36) rfl d_V_drop_12 ?_
    refine lv_iconst (v := 1) S.1 S.2.1 d_V_drop_15 (by decide) ?_
    refine lv_isub S.1 S.2.1 d_V_drop_16 ?_
    refine lv_topi (fun x_2 ex_2 => ?_)
    refine ur_put (k := (7 + 2 * j)) (v := .int x_2) (g' := xG ca ad (up3 v 16 j 0 x_2, π)) S hK hP (uD _ hJ) hS (kb_V hj) (xg_row hj) rfl (fun w h => hU w (in_V w h)) ty_V tyk_V nm_V 1 (by decide) (hU _ t1_36) rfl rfl rfl (Nat.le_of_ble_eq_true rfl) (xs_held hj) d_V_drop_17 (fun H locs hP hS => ?_)
    refine lv_aload_n S.1 S.2.1 d_V_drop_20 rfl (lv_at hl 0 rfl) ?_
    refine ur_get (k := (7 + 2 * j)) (v := .ref (ad (8 + 2 * j))) S hK hP (kb_V hj) (xg_row hj) rfl (fun w h => hU w (in_V w h)) 0 (by decide) (hU _ t1_35) rfl d_V_drop_21 ?_
    refine lv_iload_n S.1 S.2.1 d_V_drop_24 rfl (lv_at hl 1 rfl) ?_
    refine lv_iconst (v := (-1)) S.1 S.2.1 d_V_drop_25 (by decide) ?_
    refine ur_iast (k := (8 + 2 * j)) (f := ((up3 v 16 j 0 x_2) 17 j)) (j := ch) (g' := xG ca ad (up3 (up3 v 16 j 0 x_2) 17 j ch (-1), π)) S hK hP (uD _ hJ) hS (kb_W hj) 0 (xg_val hj) rfl rfl hch (by decide) (xs_val hj) d_V_drop_26 (fun H locs hP hS => ?_)
    exact uVret S hr hlk ((up3 (up3 v 16 j 0 x_2) 17 j ch (-1)), π) hP hS (by simp [vDrop, c_1, ex_2]) d_V_drop_27

set_option maxRecDepth 100000 in
set_option maxHeartbeats 4000000 in
theorem c_P_store {l : Launch} {D : va_G} {ca : Nat → ClassId} {ad : Nat → Nat} (hJ : uJ 165 ad) (v : Nat → Nat → Nat → Int32) (π : Nat → Nat) (q ch : Nat) (hq : q < 16) (hch : ch < 64) (x : Int32) : uMv l y_P_store b_P_store 4 (none : Option Jvm.ClassFile.FieldType) 0 0 D clsAll (tysAll ca) 165 ad (xG ca ad) (v, π) [.ref (ad 2), .int (nI q), .int (nI ch), .int x] (fun u => u = (up3 v 3 0 (q * 64 + ch) x, π)) := by
  refine uStart (by decide) (Nat.le_of_ble_eq_true rfl) ?_
  intro p e s m below meth c ls S hr hlk hK hN hP hl
  have hU : ∀ w ∈ uWS, w ∈ (Cond.code y_P_store b_P_store 4 (none : Option Jvm.ClassFile.FieldType) :: uWS) := fun w h => List.mem_cons_of_mem _ h
  have hS : va_S (uA 165 ad s.heap.size) s.heap s.heap [] := va_S.rf
  have hl : lv_has ls 4 [(0, .ref (ad 2)), (1, .int (nI q)), (2, .int (nI ch)), (3, .int x)] := hl
  refine lv_aload_n S.1 S.2.1 d_P_store_0 rfl (lv_at hl 0 rfl) ?_
  refine ur_get (k := 2) (v := .ref (ad 3)) S hK hP (by decide) xg_pal rfl (fun w h => hU w (in_P w h)) 0 (by decide) (hU _ t1_54) rfl d_P_store_1 ?_
  refine lv_iload_n S.1 S.2.1 d_P_store_4 rfl (lv_at hl 1 rfl) ?_
  refine lv_bipush (v := 64) S.1 S.2.1 d_P_store_5 (by decide) ?_
  refine lv_imul S.1 S.2.1 d_P_store_7 ?_
  refine lv_iload_n S.1 S.2.1 d_P_store_8 rfl (lv_at hl 2 rfl) ?_
  refine lv_iadd S.1 S.2.1 d_P_store_9 ?_
  refine lv_iload_n S.1 S.2.1 d_P_store_10 rfl (lv_at hl 3 rfl) ?_
  refine ur_iast (k := 3) (f := (v 3 0)) (j := (q * 64 + ch)) (g' := xG ca ad (up3 v 3 0 (q * 64 + ch) x, π)) S hK hP (uD _ hJ) hS (by decide) 0 xg_lev rfl (by rw [show (64 : Int32) = nI 64 from rfl, pk_mul, nI_add]) (by omega) (by decide) xs_lev d_P_store_11 (fun H locs hP hS => ?_)
  exact uVret S hr hlk ((up3 v 3 0 (q * 64 + ch) x), π) hP hS (by simp) d_P_store_12

set_option maxRecDepth 100000 in
set_option maxHeartbeats 4000000 in
theorem c_C_isBefore {l : Launch} {D : va_G} {ca : Nat → ClassId} {ad : Nat → Nat} (hJ : uJ 165 ad) (v : Nat → Nat → Nat → Int32) (π : Nat → Nat) (j : Nat) (hj : j < 40) (a b : Int32) : uMi l y_C_isBefore b_C_isBefore 3 (some .boolean) 0 0 D clsAll (tysAll ca) 165 ad (xG ca ad) (v, π) [.ref (ad (89 + j)), .int a, .int b] (fun r u => u = (v, π) ∧ r = pI (v 10 j 0 < a ∨ (v 10 j 0 = a ∧ v 11 j 0 < b))) := by
  refine uStart (by decide) (Nat.le_of_ble_eq_true rfl) ?_
  intro p e s m below meth c ls S hr hlk hK hN hP hl
  have hU : ∀ w ∈ uWS, w ∈ (Cond.code y_C_isBefore b_C_isBefore 3 (some .boolean) :: uWS) := fun w h => List.mem_cons_of_mem _ h
  have hS : va_S (uA 165 ad s.heap.size) s.heap s.heap [] := va_S.rf
  have hl : lv_has ls 3 [(0, .ref (ad (89 + j))), (1, .int a), (2, .int b)] := hl
  refine lv_aload_n S.1 S.2.1 d_C_isBefore_0 rfl (lv_at hl 0 rfl) ?_
  refine ur_get (k := (89 + j)) (v := .int (v 10 j 0)) S hK hP (kb_C hj) (xg_cue hj) rfl (fun w h => hU w (in_C w h)) 1 (by decide) (hU _ t1_75) rfl d_C_isBefore_1 ?_
  refine lv_iload_n S.1 S.2.1 d_C_isBefore_4 rfl (lv_at hl 1 rfl) ?_
  refine lv_icmp_lt (tgt := 24) S.1 S.2.1 d_C_isBefore_5 (by decide) (fun c_1 => ?_) (fun c_1 => ?_)
  · refine lv_iconst (v := 1) S.1 S.2.1 d_C_isBefore_24 (by decide) ?_
    refine lv_goto (tgt := 29) S.1 S.2.1 d_C_isBefore_25 (by decide) ?_
    exact uZret S hr hlk rfl (v, π) hP hS (by refine ⟨rfl, ?_⟩; simp [pI, c_1]) d_C_isBefore_29
  · refine lv_aload_n S.1 S.2.1 d_C_isBefore_8 rfl (lv_at hl 0 rfl) ?_
    refine ur_get (k := (89 + j)) (v := .int (v 10 j 0)) S hK hP (kb_C hj) (xg_cue hj) rfl (fun w h => hU w (in_C w h)) 1 (by decide) (hU _ t1_75) rfl d_C_isBefore_9 ?_
    refine lv_iload_n S.1 S.2.1 d_C_isBefore_12 rfl (lv_at hl 1 rfl) ?_
    refine lv_icmp_ne (tgt := 28) S.1 S.2.1 d_C_isBefore_13 (by decide) (fun c_2 => ?_) (fun c_2 => ?_)
    · refine lv_iconst (v := 0) S.1 S.2.1 d_C_isBefore_28 (by decide) ?_
      exact uZret S hr hlk rfl (v, π) hP hS (by refine ⟨rfl, ?_⟩; simp [pI, c_1, c_2]) d_C_isBefore_29
    · refine lv_aload_n S.1 S.2.1 d_C_isBefore_16 rfl (lv_at hl 0 rfl) ?_
      refine ur_get (k := (89 + j)) (v := .int (v 11 j 0)) S hK hP (kb_C hj) (xg_cue hj) rfl (fun w h => hU w (in_C w h)) 2 (by decide) (hU _ t1_77) rfl d_C_isBefore_17 ?_
      refine lv_iload_n S.1 S.2.1 d_C_isBefore_20 rfl (lv_at hl 2 rfl) ?_
      refine lv_icmp_ge (tgt := 28) S.1 S.2.1 d_C_isBefore_21 (by decide) (fun c_3 => ?_) (fun c_3 => ?_)
      · refine lv_iconst (v := 0) S.1 S.2.1 d_C_isBefore_28 (by decide) ?_
        exact uZret S hr hlk rfl (v, π) hP hS (by refine ⟨rfl, ?_⟩; simp [pI, c_1, c_2, c_3]) d_C_isBefore_29
      · refine lv_iconst (v := 1) S.1 S.2.1 d_C_isBefore_24 (by decide) ?_
        refine lv_goto (tgt := 29) S.1 S.2.1 d_C_isBefore_25 (by decide) ?_
        exact uZret S hr hlk rfl (v, π) hP hS (by refine ⟨rfl, ?_⟩; simp [pI, c_1, c_2, c_3]) d_C_isBefore_29

set_option maxRecDepth 100000 in
set_option maxHeartbeats 4000000 in
theorem c_Y_lookTick {l : Launch} {D : va_G} {ca : Nat → ClassId} {ad : Nat → Nat} (hJ : uJ 165 ad) (v : Nat → Nat → Nat → Int32) (π : Nat → Nat) (j ch : Nat) (hj : j < 6) (hch : ch < 64) : uMi l y_Y_lookTick b_Y_lookTick 2 (some .int) 0 0 D clsAll (tysAll ca) 165 ad (xG ca ad) (v, π) [.ref (ad (129 + 6 * j)), .int (nI ch)] (fun r u => u = (v, π) ∧ r = v 24 j ch) := by
  refine uStart (by decide) (Nat.le_of_ble_eq_true rfl) ?_
  intro p e s m below meth c ls S hr hlk hK hN hP hl
  have hU : ∀ w ∈ uWS, w ∈ (Cond.code y_Y_lookTick b_Y_lookTick 2 (some .int) :: uWS) := fun w h => List.mem_cons_of_mem _ h
  have hS : va_S (uA 165 ad s.heap.size) s.heap s.heap [] := va_S.rf
  have hl : lv_has ls 2 [(0, .ref (ad (129 + 6 * j))), (1, .int (nI ch))] := hl
  refine lv_aload_n S.1 S.2.1 d_Y_lookTick_0 rfl (lv_at hl 0 rfl) ?_
  refine ur_get (k := (129 + 6 * j)) (v := .ref (ad (134 + 6 * j))) S hK hP (kb_Y hj) (xg_ply hj) rfl (fun w h => hU w (in_Y w h)) 4 (by decide) (hU _ t1_126) rfl d_Y_lookTick_1 ?_
  refine lv_iload_n S.1 S.2.1 d_Y_lookTick_4 rfl (lv_at hl 1 rfl) ?_
  refine ur_iald (k := (130 + 4 + 6 * j)) (f := (v 24 j)) (j := ch) S hK hP (kb_A 4 (by decide) hj) 0 (xg_arr 4 (by decide) hj) rfl rfl hch (by decide) d_Y_lookTick_5 ?_
  exact uIret S hr hlk (v, π) hP hS (by refine ⟨rfl, ?_⟩; simp [pI]) d_Y_lookTick_6

set_option maxRecDepth 100000 in
set_option maxHeartbeats 4000000 in
theorem c_Y_levelAt {l : Launch} {D : va_G} {ca : Nat → ClassId} {ad : Nat → Nat} (hJ : uJ 165 ad) (v : Nat → Nat → Nat → Int32) (π : Nat → Nat) (j ch : Nat) (hj : j < 6) (hch : ch < 64) (x : Int32) : uMi l y_Y_levelAt b_Y_levelAt 5 (some .int) 0 0 D clsAll (tysAll ca) 165 ad (xG ca ad) (v, π) [.ref (ad (129 + 6 * j)), .int (nI ch), .int x] (fun r u => u = (v, π) ∧ r = vAt v j ch x) := by
  refine uStart (by decide) (Nat.le_of_ble_eq_true rfl) ?_
  intro p e s m below meth c ls S hr hlk hK hN hP hl
  have hU : ∀ w ∈ uWS, w ∈ (Cond.code y_Y_levelAt b_Y_levelAt 5 (some .int) :: uWS) := fun w h => List.mem_cons_of_mem _ h
  have hS : va_S (uA 165 ad s.heap.size) s.heap s.heap [] := va_S.rf
  have hl : lv_has ls 5 [(0, .ref (ad (129 + 6 * j))), (1, .int (nI ch)), (2, .int x)] := hl
  refine lv_iload_n S.1 S.2.1 d_Y_levelAt_0 rfl (lv_at hl 2 rfl) ?_
  refine lv_aload_n S.1 S.2.1 d_Y_levelAt_1 rfl (lv_at hl 0 rfl) ?_
  refine ur_get (k := (129 + 6 * j)) (v := .ref (ad (132 + 6 * j))) S hK hP (kb_Y hj) (xg_ply hj) rfl (fun w h => hU w (in_Y w h)) 2 (by decide) (hU _ t1_124) rfl d_Y_levelAt_2 ?_
  refine lv_iload_n S.1 S.2.1 d_Y_levelAt_5 rfl (lv_at hl 1 rfl) ?_
  refine ur_iald (k := (130 + 2 + 6 * j)) (f := (v 22 j)) (j := ch) S hK hP (kb_A 2 (by decide) hj) 0 (xg_arr 2 (by decide) hj) rfl rfl hch (by decide) d_Y_levelAt_6 ?_
  refine lv_isub S.1 S.2.1 d_Y_levelAt_7 ?_
  refine lv_topi (fun x_1 ex_1 => ?_)
  refine lv_istore_n (lv' := [(3, .int x_1), (0, .ref (ad (129 + 6 * j))), (1, .int (nI ch)), (2, .int x)]) S.1 S.2.1 d_Y_levelAt_8 rfl hl (by decide) rfl (fun ls hl => ?_)
  refine lv_aload_n S.1 S.2.1 d_Y_levelAt_9 rfl (lv_at hl 1 rfl) ?_
  refine ur_get (k := (129 + 6 * j)) (v := .ref (ad (133 + 6 * j))) S hK hP (kb_Y hj) (xg_ply hj) rfl (fun w h => hU w (in_Y w h)) 3 (by decide) (hU _ t1_125) rfl d_Y_levelAt_10 ?_
  refine lv_iload_n S.1 S.2.1 d_Y_levelAt_13 rfl (lv_at hl 2 rfl) ?_
  refine ur_iald (k := (130 + 3 + 6 * j)) (f := (v 23 j)) (j := ch) S hK hP (kb_A 3 (by decide) hj) 0 (xg_arr 3 (by decide) hj) rfl rfl hch (by decide) d_Y_levelAt_14 ?_
  refine lv_topi (fun x_2 ex_2 => ?_)
  refine lv_istore (lv' := [(4, .int x_2), (3, .int x_1), (0, .ref (ad (129 + 6 * j))), (1, .int (nI ch)), (2, .int x)]) S.1 S.2.1 d_Y_levelAt_15 hl (by decide) rfl (fun ls hl => ?_)
  refine lv_iload_n S.1 S.2.1 d_Y_levelAt_17 rfl (lv_at hl 1 rfl) ?_
  refine lv_if_ge (tgt := 28) S.1 S.2.1 d_Y_levelAt_18 (by decide) (fun c_3 => ?_) (fun c_3 => ?_)
  · refine lv_iload_n S.1 S.2.1 d_Y_levelAt_28 rfl (lv_at hl 1 rfl) ?_
    refine lv_iload S.1 S.2.1 d_Y_levelAt_29 (lv_at hl 0 rfl) ?_
    refine lv_icmp_lt (tgt := 41) S.1 S.2.1 d_Y_levelAt_31 (by decide) (fun c_4 => ?_) (fun c_4 => ?_)
    · refine lv_aload_n S.1 S.2.1 d_Y_levelAt_41 rfl (lv_at hl 2 rfl) ?_
      refine ur_get (k := (129 + 6 * j)) (v := .ref (ad (130 + 6 * j))) S hK hP (kb_Y hj) (xg_ply hj) rfl (fun w h => hU w (in_Y w h)) 0 (by decide) (hU _ t1_122) rfl d_Y_levelAt_42 ?_
      refine lv_iload_n S.1 S.2.1 d_Y_levelAt_45 rfl (lv_at hl 3 rfl) ?_
      refine ur_iald (k := (130 + 0 + 6 * j)) (f := (v 20 j)) (j := ch) S hK hP (kb_A 0 (by decide) hj) 0 (xg_arr 0 (by decide) hj) rfl rfl hch (by decide) d_Y_levelAt_46 ?_
      refine lv_aload_n S.1 S.2.1 d_Y_levelAt_47 rfl (lv_at hl 2 rfl) ?_
      refine ur_get (k := (129 + 6 * j)) (v := .ref (ad (131 + 6 * j))) S hK hP (kb_Y hj) (xg_ply hj) rfl (fun w h => hU w (in_Y w h)) 1 (by decide) (hU _ t1_123) rfl d_Y_levelAt_48 ?_
      refine lv_iload_n S.1 S.2.1 d_Y_levelAt_51 rfl (lv_at hl 3 rfl) ?_
      refine ur_iald (k := (130 + 1 + 6 * j)) (f := (v 21 j)) (j := ch) S hK hP (kb_A 1 (by decide) hj) 0 (xg_arr 1 (by decide) hj) rfl rfl hch (by decide) d_Y_levelAt_52 ?_
      refine lv_aload_n S.1 S.2.1 d_Y_levelAt_53 rfl (lv_at hl 2 rfl) ?_
      refine ur_get (k := (129 + 6 * j)) (v := .ref (ad (130 + 6 * j))) S hK hP (kb_Y hj) (xg_ply hj) rfl (fun w h => hU w (in_Y w h)) 0 (by decide) (hU _ t1_122) rfl d_Y_levelAt_54 ?_
      refine lv_iload_n S.1 S.2.1 d_Y_levelAt_57 rfl (lv_at hl 3 rfl) ?_
      refine ur_iald (k := (130 + 0 + 6 * j)) (f := (v 20 j)) (j := ch) S hK hP (kb_A 0 (by decide) hj) 0 (xg_arr 0 (by decide) hj) rfl rfl hch (by decide) d_Y_levelAt_58 ?_
      refine lv_isub S.1 S.2.1 d_Y_levelAt_59 ?_
      refine lv_iload_n S.1 S.2.1 d_Y_levelAt_60 rfl (lv_at hl 1 rfl) ?_
      refine lv_imul S.1 S.2.1 d_Y_levelAt_61 ?_
      refine lv_iload S.1 S.2.1 d_Y_levelAt_62 (lv_at hl 0 rfl) ?_
      refine lv_idiv S.1 S.2.1 d_Y_levelAt_64 (fun h0 => by rw [h0] at c_4; exact absurd c_3 (Int32.not_le.mpr c_4)) ?_
      refine lv_iadd S.1 S.2.1 d_Y_levelAt_65 ?_
      exact uIret S hr hlk (v, π) hP hS (by refine ⟨rfl, ?_⟩; subst_vars; simp [vAt, vFade, c_3, c_4]) d_Y_levelAt_66
    · refine lv_aload_n S.1 S.2.1 d_Y_levelAt_34 rfl (lv_at hl 2 rfl) ?_
      refine ur_get (k := (129 + 6 * j)) (v := .ref (ad (131 + 6 * j))) S hK hP (kb_Y hj) (xg_ply hj) rfl (fun w h => hU w (in_Y w h)) 1 (by decide) (hU _ t1_123) rfl d_Y_levelAt_35 ?_
      refine lv_iload_n S.1 S.2.1 d_Y_levelAt_38 rfl (lv_at hl 3 rfl) ?_
      refine ur_iald (k := (130 + 1 + 6 * j)) (f := (v 21 j)) (j := ch) S hK hP (kb_A 1 (by decide) hj) 0 (xg_arr 1 (by decide) hj) rfl rfl hch (by decide) d_Y_levelAt_39 ?_
      exact uIret S hr hlk (v, π) hP hS (by refine ⟨rfl, ?_⟩; subst_vars; simp [vAt, vFade, c_3, c_4]) d_Y_levelAt_40
  · refine lv_aload_n S.1 S.2.1 d_Y_levelAt_21 rfl (lv_at hl 2 rfl) ?_
    refine ur_get (k := (129 + 6 * j)) (v := .ref (ad (130 + 6 * j))) S hK hP (kb_Y hj) (xg_ply hj) rfl (fun w h => hU w (in_Y w h)) 0 (by decide) (hU _ t1_122) rfl d_Y_levelAt_22 ?_
    refine lv_iload_n S.1 S.2.1 d_Y_levelAt_25 rfl (lv_at hl 3 rfl) ?_
    refine ur_iald (k := (130 + 0 + 6 * j)) (f := (v 20 j)) (j := ch) S hK hP (kb_A 0 (by decide) hj) 0 (xg_arr 0 (by decide) hj) rfl rfl hch (by decide) d_Y_levelAt_26 ?_
    exact uIret S hr hlk (v, π) hP hS (by refine ⟨rfl, ?_⟩; subst_vars; simp [vAt, vFade, c_3]) d_Y_levelAt_27
