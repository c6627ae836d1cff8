/-! The model: small methods and searches (printed by wip/gen/gen_m1.py) -/
set_option maxRecDepth 100000 in
set_option maxHeartbeats 4000000 in
theorem c_M_isChannel {l : Launch} {D : va_G} {ca : Nat → ClassId} {ad : Nat → Nat} (hJ : uJ 22 ad) (w : Nat → Nat → Int32) (x0 : Int32) : uMi l y_M_isChannel b_M_isChannel 1 (some .boolean) 0 0 D clsAll (tysAll ca) 22 ad (mG ca ad) w [.int x0] (fun r u => u = w ∧ r = pI (isCh x0)) := by
  refine uStart (by decide) (Nat.le_of_ble_eq_true rfl) ?_
  intro p e s m below meth c ls S hr hlk hK hN hP hl
  have hU : ∀ w ∈ uWS, w ∈ (Cond.code y_M_isChannel b_M_isChannel 1 (some .boolean) :: uWS) := fun w h => List.mem_cons_of_mem _ h
  have hS : va_S (uA 22 ad s.heap.size) s.heap s.heap [] := va_S.rf
  have hl : lv_has ls 1 [(0, .int x0)] := hl
  refine lv_iload_n S.1 S.2.1 d_M_isChannel_0 rfl (lv_at hl 0 rfl) ?_
  refine lv_if_lt (tgt := 14) S.1 S.2.1 d_M_isChannel_1 (by decide) (fun c_1 => ?_) (fun c_1 => ?_)
  · refine lv_iconst (v := 0) S.1 S.2.1 d_M_isChannel_14 (by decide) ?_
    exact uZret S hr hlk rfl w hP hS (by refine ⟨rfl, ?_⟩; simp [pI, c_1]) d_M_isChannel_15
  · refine lv_iload_n S.1 S.2.1 d_M_isChannel_4 rfl (lv_at hl 0 rfl) ?_
    refine lv_bipush (v := 64) S.1 S.2.1 d_M_isChannel_5 (by decide) ?_
    refine lv_icmp_ge (tgt := 14) S.1 S.2.1 d_M_isChannel_7 (by decide) (fun c_2 => ?_) (fun c_2 => ?_)
    · refine lv_iconst (v := 0) S.1 S.2.1 d_M_isChannel_14 (by decide) ?_
      exact uZret S hr hlk rfl w hP hS (by refine ⟨rfl, ?_⟩; simp [pI, c_1, c_2]) d_M_isChannel_15
    · refine lv_iconst (v := 1) S.1 S.2.1 d_M_isChannel_10 (by decide) ?_
      refine lv_goto (tgt := 15) S.1 S.2.1 d_M_isChannel_11 (by decide) ?_
      exact uZret S hr hlk rfl w hP hS (by refine ⟨rfl, ?_⟩; simp [pI, c_1, c_2]) d_M_isChannel_15

set_option maxRecDepth 100000 in
set_option maxHeartbeats 4000000 in
theorem c_M_isLevel {l : Launch} {D : va_G} {ca : Nat → ClassId} {ad : Nat → Nat} (hJ : uJ 22 ad) (w : Nat → Nat → Int32) (x0 : Int32) : uMi l y_M_isLevel b_M_isLevel 1 (some .boolean) 0 0 D clsAll (tysAll ca) 22 ad (mG ca ad) w [.int x0] (fun r u => u = w ∧ r = pI (isLm x0)) := by
  refine uStart (by decide) (Nat.le_of_ble_eq_true rfl) ?_
  intro p e s m below meth c ls S hr hlk hK hN hP hl
  have hU : ∀ w ∈ uWS, w ∈ (Cond.code y_M_isLevel b_M_isLevel 1 (some .boolean) :: uWS) := fun w h => List.mem_cons_of_mem _ h
  have hS : va_S (uA 22 ad s.heap.size) s.heap s.heap [] := va_S.rf
  have hl : lv_has ls 1 [(0, .int x0)] := hl
  refine lv_iload_n S.1 S.2.1 d_M_isLevel_0 rfl (lv_at hl 0 rfl) ?_
  refine lv_if_lt (tgt := 15) S.1 S.2.1 d_M_isLevel_1 (by decide) (fun c_1 => ?_) (fun c_1 => ?_)
  · refine lv_iconst (v := 0) S.1 S.2.1 d_M_isLevel_15 (by decide) ?_
    exact uZret S hr hlk rfl w hP hS (by refine ⟨rfl, ?_⟩; simp [pI, c_1]) d_M_isLevel_16
  · refine lv_iload_n S.1 S.2.1 d_M_isLevel_4 rfl (lv_at hl 0 rfl) ?_
    refine lv_sipush (v := 256) S.1 S.2.1 d_M_isLevel_5 (by decide) ?_
    refine lv_icmp_ge (tgt := 15) S.1 S.2.1 d_M_isLevel_8 (by decide) (fun c_2 => ?_) (fun c_2 => ?_)
    · refine lv_iconst (v := 0) S.1 S.2.1 d_M_isLevel_15 (by decide) ?_
      exact uZret S hr hlk rfl w hP hS (by refine ⟨rfl, ?_⟩; simp [pI, c_1, c_2]) d_M_isLevel_16
    · refine lv_iconst (v := 1) S.1 S.2.1 d_M_isLevel_11 (by decide) ?_
      refine lv_goto (tgt := 16) S.1 S.2.1 d_M_isLevel_12 (by decide) ?_
      exact uZret S hr hlk rfl w hP hS (by refine ⟨rfl, ?_⟩; simp [pI, c_1, c_2]) d_M_isLevel_16

set_option maxRecDepth 100000 in
set_option maxHeartbeats 4000000 in
theorem c_M_isTime {l : Launch} {D : va_G} {ca : Nat → ClassId} {ad : Nat → Nat} (hJ : uJ 22 ad) (w : Nat → Nat → Int32) (x0 : Int32) : uMi l y_M_isTime b_M_isTime 1 (some .boolean) 0 0 D clsAll (tysAll ca) 22 ad (mG ca ad) w [.int x0] (fun r u => u = w ∧ r = pI (isTm x0)) := by
  refine uStart (by decide) (Nat.le_of_ble_eq_true rfl) ?_
  intro p e s m below meth c ls S hr hlk hK hN hP hl
  have hU : ∀ w ∈ uWS, w ∈ (Cond.code y_M_isTime b_M_isTime 1 (some .boolean) :: uWS) := fun w h => List.mem_cons_of_mem _ h
  have hS : va_S (uA 22 ad s.heap.size) s.heap s.heap [] := va_S.rf
  have hl : lv_has ls 1 [(0, .int x0)] := hl
  refine lv_iload_n S.1 S.2.1 d_M_isTime_0 rfl (lv_at hl 0 rfl) ?_
  refine lv_if_lt (tgt := 15) S.1 S.2.1 d_M_isTime_1 (by decide) (fun c_1 => ?_) (fun c_1 => ?_)
  · refine lv_iconst (v := 0) S.1 S.2.1 d_M_isTime_15 (by decide) ?_
    exact uZret S hr hlk rfl w hP hS (by refine ⟨rfl, ?_⟩; simp [pI, c_1]) d_M_isTime_16
  · refine lv_iload_n S.1 S.2.1 d_M_isTime_4 rfl (lv_at hl 0 rfl) ?_
    refine lv_sipush (v := 10000) S.1 S.2.1 d_M_isTime_5 (by decide) ?_
    refine lv_icmp_gt (tgt := 15) S.1 S.2.1 d_M_isTime_8 (by decide) (fun c_2 => ?_) (fun c_2 => ?_)
    · refine lv_iconst (v := 0) S.1 S.2.1 d_M_isTime_15 (by decide) ?_
      exact uZret S hr hlk rfl w hP hS (by refine ⟨rfl, ?_⟩; simp [pI, c_1, c_2]) d_M_isTime_16
    · refine lv_iconst (v := 1) S.1 S.2.1 d_M_isTime_11 (by decide) ?_
      refine lv_goto (tgt := 16) S.1 S.2.1 d_M_isTime_12 (by decide) ?_
      exact uZret S hr hlk rfl w hP hS (by refine ⟨rfl, ?_⟩; simp [pI, c_1, c_2]) d_M_isTime_16

set_option maxRecDepth 100000 in
set_option maxHeartbeats 4000000 in
theorem c_M_isPlayback {l : Launch} {D : va_G} {ca : Nat → ClassId} {ad : Nat → Nat} (hJ : uJ 22 ad) (w : Nat → Nat → Int32) (x0 : Int32) : uMi l y_M_isPlayback b_M_isPlayback 1 (some .boolean) 0 0 D clsAll (tysAll ca) 22 ad (mG ca ad) w [.int x0] (fun r u => u = w ∧ r = pI (isPb x0)) := by
  refine uStart (by decide) (Nat.le_of_ble_eq_true rfl) ?_
  intro p e s m below meth c ls S hr hlk hK hN hP hl
  have hU : ∀ w ∈ uWS, w ∈ (Cond.code y_M_isPlayback b_M_isPlayback 1 (some .boolean) :: uWS) := fun w h => List.mem_cons_of_mem _ h
  have hS : va_S (uA 22 ad s.heap.size) s.heap s.heap [] := va_S.rf
  have hl : lv_has ls 1 [(0, .int x0)] := hl
  refine lv_iload_n S.1 S.2.1 d_M_isPlayback_0 rfl (lv_at hl 0 rfl) ?_
  refine lv_if_lt (tgt := 14) S.1 S.2.1 d_M_isPlayback_1 (by decide) (fun c_1 => ?_) (fun c_1 => ?_)
  · refine lv_iconst (v := 0) S.1 S.2.1 d_M_isPlayback_14 (by decide) ?_
    exact uZret S hr hlk rfl w hP hS (by refine ⟨rfl, ?_⟩; simp [pI, c_1]) d_M_isPlayback_15
  · refine lv_iload_n S.1 S.2.1 d_M_isPlayback_4 rfl (lv_at hl 0 rfl) ?_
    refine lv_bipush (v := 6) S.1 S.2.1 d_M_isPlayback_5 (by decide) ?_
    refine lv_icmp_ge (tgt := 14) S.1 S.2.1 d_M_isPlayback_7 (by decide) (fun c_2 => ?_) (fun c_2 => ?_)
    · refine lv_iconst (v := 0) S.1 S.2.1 d_M_isPlayback_14 (by decide) ?_
      exact uZret S hr hlk rfl w hP hS (by refine ⟨rfl, ?_⟩; simp [pI, c_1, c_2]) d_M_isPlayback_15
    · refine lv_iconst (v := 1) S.1 S.2.1 d_M_isPlayback_10 (by decide) ?_
      refine lv_goto (tgt := 15) S.1 S.2.1 d_M_isPlayback_11 (by decide) ?_
      exact uZret S hr hlk rfl w hP hS (by refine ⟨rfl, ?_⟩; simp [pI, c_1, c_2]) d_M_isPlayback_15

set_option maxRecDepth 100000 in
set_option maxHeartbeats 4000000 in
theorem c_M_thrown {l : Launch} {D : va_G} {ca : Nat → ClassId} {ad : Nat → Nat} (hJ : uJ 22 ad) (w : Nat → Nat → Int32)  : uMi l y_M_thrown b_M_thrown 1 (some .int) 0 0 D clsAll (tysAll ca) 22 ad (mG ca ad) w [.ref (ad 0)] (fun r u => u = w ∧ r = w 0 0) := by
  refine uStart (by decide) (Nat.le_of_ble_eq_true rfl) ?_
  intro p e s m below meth c ls S hr hlk hK hN hP hl
  have hU : ∀ w ∈ uWS, w ∈ (Cond.code y_M_thrown b_M_thrown 1 (some .int) :: uWS) := fun w h => List.mem_cons_of_mem _ h
  have hS : va_S (uA 22 ad s.heap.size) s.heap s.heap [] := va_S.rf
  have hl : lv_has ls 1 [(0, .ref (ad 0))] := hl
  refine lv_aload_n S.1 S.2.1 d_M_thrown_0 rfl (lv_at hl 0 rfl) ?_
  refine ur_get (k := 0) (v := .int (w 0 0)) S hK hP (by decide) mg_obj rfl (fun w h => hU w (in_M w h)) 0 (by decide) (hU _ t3_160) rfl d_M_thrown_1 ?_
  exact uIret S hr hlk w hP hS (⟨rfl, rfl⟩) d_M_thrown_4

set_option maxRecDepth 100000 in
set_option maxHeartbeats 4000000 in
theorem c_M_kind {l : Launch} {D : va_G} {ca : Nat → ClassId} {ad : Nat → Nat} (hJ : uJ 22 ad) (w : Nat → Nat → Int32) (x1 x2 : Int32) (hz : vp_nar .boolean x2 = x2) : uMi l y_M_kind b_M_kind 3 (some .boolean) 1 20 D clsAll (tysAll ca) 22 ad (mG ca ad) w [.ref (ad 0), .int x1, .int x2] (fun r u => if isCh x1 then u = up2 (up2 w 0 0 0) 1 x1.toNatClampNeg x2 ∧ r = 1 else u = (up2 w 0 0 0) ∧ r = 0) := by
  refine uStart (by decide) (Nat.le_of_ble_eq_true rfl) ?_
  intro p e s m below meth c ls S hr hlk hK hN hP hl
  have hU : ∀ w ∈ uWS, w ∈ (Cond.code y_M_kind b_M_kind 3 (some .boolean) :: uWS) := fun w h => List.mem_cons_of_mem _ h
  have hS : va_S (uA 22 ad s.heap.size) s.heap s.heap [] := va_S.rf
  have hl : lv_has ls 3 [(0, .ref (ad 0)), (1, .int x1), (2, .int x2)] := hl
  refine lv_aload_n S.1 S.2.1 d_M_kind_0 rfl (lv_at hl 0 rfl) ?_
  refine lv_iconst (v := 0) S.1 S.2.1 d_M_kind_1 (by decide) ?_
  refine ur_put (k := 0) (v := .int 0) (g' := mG ca ad (up2 w 0 0 0)) S hK hP (uD _ hJ) hS (by decide) mg_obj rfl (fun w h => hU w (in_M w h)) ty_M tyk_M nm_M 0 (by decide) (hU _ t3_160) rfl rfl rfl (Nat.le_of_ble_eq_true rfl) ms_thr d_M_kind_2 (fun H locs hP hS => ?_)
  refine lv_iload_n S.1 S.2.1 d_M_kind_5 rfl (lv_at hl 1 rfl) ?_
  refine uSi (n := 1) (As := [.int x1]) (rest := []) S hK hN hP hS (c_M_isChannel hJ (up2 w 0 0 0) x1) ⟨hU, t4_4, t4_2, t1_8, by decide +kernel, by decide, by decide⟩ t4_3 rfl hl.1 rfl (Nat.le_of_ble_eq_true rfl) d_M_kind_6 ⟨Nat.le_of_ble_eq_true rfl, Nat.le_of_ble_eq_true rfl⟩ (fun r u H locs hp hP hS => ?_)
  obtain ⟨hu, rfl⟩ := hp
  rw [hu] at hP
  refine lv_if_ne (tgt := 14) S.1 S.2.1 d_M_kind_9 (by decide) (fun c_a => ?_) (fun c_a => ?_)
  · have c_a := pI_yes c_a
    obtain ⟨ch, hch, ech⟩ := isCh_nat c_a
    subst ech
    refine lv_aload_n S.1 S.2.1 d_M_kind_14 rfl (lv_at hl 0 rfl) ?_
    refine ur_get (k := 0) (v := .ref (ad 1)) S hK hP (by decide) mg_obj rfl (fun w h => hU w (in_M w h)) 1 (by decide) (hU _ t3_161) rfl d_M_kind_15 ?_
    refine lv_iload_n S.1 S.2.1 d_M_kind_18 rfl (lv_at hl 1 rfl) ?_
    refine lv_iload_n S.1 S.2.1 d_M_kind_19 rfl (lv_at hl 2 rfl) ?_
    refine ur_zast (k := 1) (n := 64) (f := ((up2 w 0 0 0) 1)) (j := ch) (g' := mG ca ad (up2 (up2 w 0 0 0) 1 ch x2)) S hK hP (uD _ hJ) hS (by decide) 1 (mg_arr 1 (by decide)) rfl rfl hch (by decide) hz (ms_arr 1 (by decide) (by decide) (by decide)) d_M_kind_20 (fun H locs hP hS => ?_)
    refine lv_iconst (v := 1) S.1 S.2.1 d_M_kind_21 (by decide) ?_
    exact uZret S hr hlk rfl (up2 (up2 w 0 0 0) 1 ch x2) hP hS (by rw [if_pos c_a]; exact ⟨by rw [nI_clamp (by omega)], rfl⟩) d_M_kind_22
  · have c_a := pI_no c_a
    refine lv_iconst (v := 0) S.1 S.2.1 d_M_kind_12 (by decide) ?_
    exact uZret S hr hlk rfl (up2 w 0 0 0) hP hS (by rw [if_neg (fun z => c_a z)]; exact ⟨rfl, rfl⟩) d_M_kind_13

set_option maxRecDepth 100000 in
set_option maxHeartbeats 4000000 in
theorem c_M_set {l : Launch} {D : va_G} {ca : Nat → ClassId} {ad : Nat → Nat} (hJ : uJ 22 ad) (w : Nat → Nat → Int32) (x1 x2 : Int32) : uMi l y_M_set b_M_set 3 (some .boolean) 1 20 D clsAll (tysAll ca) 22 ad (mG ca ad) w [.ref (ad 0), .int x1, .int x2] (fun r u => if isCh x1 ∧ isLm x2 then u = up2 (up2 w 0 0 0) 2 x1.toNatClampNeg (s16 x2) ∧ r = 1 else u = (up2 w 0 0 0) ∧ r = 0) := by
  refine uStart (by decide) (Nat.le_of_ble_eq_true rfl) ?_
  intro p e s m below meth c ls S hr hlk hK hN hP hl
  have hU : ∀ w ∈ uWS, w ∈ (Cond.code y_M_set b_M_set 3 (some .boolean) :: uWS) := fun w h => List.mem_cons_of_mem _ h
  have hS : va_S (uA 22 ad s.heap.size) s.heap s.heap [] := va_S.rf
  have hl : lv_has ls 3 [(0, .ref (ad 0)), (1, .int x1), (2, .int x2)] := hl
  refine lv_aload_n S.1 S.2.1 d_M_set_0 rfl (lv_at hl 0 rfl) ?_
  refine lv_iconst (v := 0) S.1 S.2.1 d_M_set_1 (by decide) ?_
  refine ur_put (k := 0) (v := .int 0) (g' := mG ca ad (up2 w 0 0 0)) S hK hP (uD _ hJ) hS (by decide) mg_obj rfl (fun w h => hU w (in_M w h)) ty_M tyk_M nm_M 0 (by decide) (hU _ t3_160) rfl rfl rfl (Nat.le_of_ble_eq_true rfl) ms_thr d_M_set_2 (fun H locs hP hS => ?_)
  refine lv_iload_n S.1 S.2.1 d_M_set_5 rfl (lv_at hl 1 rfl) ?_
  refine uSi (n := 1) (As := [.int x1]) (rest := []) S hK hN hP hS (c_M_isChannel hJ (up2 w 0 0 0) x1) ⟨hU, t4_4, t4_2, t1_8, by decide +kernel, by decide, by decide⟩ t4_3 rfl hl.1 rfl (Nat.le_of_ble_eq_true rfl) d_M_set_6 ⟨Nat.le_of_ble_eq_true rfl, Nat.le_of_ble_eq_true rfl⟩ (fun r u H locs hp hP hS => ?_)
  obtain ⟨hu, rfl⟩ := hp
  rw [hu] at hP
  refine lv_if_eq (tgt := 19) S.1 S.2.1 d_M_set_9 (by decide) (fun c_a => ?_) (fun c_a => ?_)
  · have c_a := pI_no c_a
    refine lv_iconst (v := 0) S.1 S.2.1 d_M_set_19 (by decide) ?_
    exact uZret S hr hlk rfl (up2 w 0 0 0) hP hS (by rw [if_neg (fun z => c_a z.1)]; exact ⟨rfl, rfl⟩) d_M_set_20
  · have c_a := pI_yes c_a
    refine lv_iload_n S.1 S.2.1 d_M_set_12 rfl (lv_at hl 2 rfl) ?_
    refine uSi (n := 1) (As := [.int x2]) (rest := []) S hK hN hP hS (c_M_isLevel hJ (up2 w 0 0 0) x2) ⟨hU, t4_11, t4_9, t1_8, by decide +kernel, by decide, by decide⟩ t4_10 rfl hl.1 rfl (Nat.le_of_ble_eq_true rfl) d_M_set_13 ⟨Nat.le_of_ble_eq_true rfl, Nat.le_of_ble_eq_true rfl⟩ (fun r u H locs hp hP hS => ?_)
    obtain ⟨hu, rfl⟩ := hp
    rw [hu] at hP
    refine lv_if_ne (tgt := 21) S.1 S.2.1 d_M_set_16 (by decide) (fun c_b => ?_) (fun c_b => ?_)
    · have c_b := pI_yes c_b
      obtain ⟨ch, hch, ech⟩ := isCh_nat c_a
      subst ech
      refine lv_aload_n S.1 S.2.1 d_M_set_21 rfl (lv_at hl 0 rfl) ?_
      refine ur_get (k := 0) (v := .ref (ad 2)) S hK hP (by decide) mg_obj rfl (fun w h => hU w (in_M w h)) 2 (by decide) (hU _ t3_162) rfl d_M_set_22 ?_
      refine lv_iload_n S.1 S.2.1 d_M_set_25 rfl (lv_at hl 1 rfl) ?_
      refine lv_iload_n S.1 S.2.1 d_M_set_26 rfl (lv_at hl 2 rfl) ?_
      refine lv_i2s (v := s16 x2) S.1 S.2.1 d_M_set_27 rfl ?_
      refine ur_sast (k := 2) (n := 64) (f := ((up2 w 0 0 0) 2)) (j := ch) (g' := mG ca ad (up2 (up2 w 0 0 0) 2 ch (s16 x2))) S hK hP (uD _ hJ) hS (by decide) 4 (mg_arr 2 (by decide)) rfl rfl hch (by decide) (s16_nar _) (ms_arr 2 (by decide) (by decide) (by decide)) d_M_set_28 (fun H locs hP hS => ?_)
      refine lv_iconst (v := 1) S.1 S.2.1 d_M_set_29 (by decide) ?_
      exact uZret S hr hlk rfl (up2 (up2 w 0 0 0) 2 ch (s16 x2)) hP hS (by rw [if_pos ⟨c_a, c_b⟩]; exact ⟨by rw [nI_clamp (by omega)], rfl⟩) d_M_set_30
    · have c_b := pI_no c_b
      refine lv_iconst (v := 0) S.1 S.2.1 d_M_set_19 (by decide) ?_
      exact uZret S hr hlk rfl (up2 w 0 0 0) hP hS (by rw [if_neg (fun z => c_b z.2)]; exact ⟨rfl, rfl⟩) d_M_set_20

set_option maxRecDepth 100000 in
set_option maxHeartbeats 4000000 in
theorem c_M_use {l : Launch} {D : va_G} {ca : Nat → ClassId} {ad : Nat → Nat} (hJ : uJ 22 ad) (w : Nat → Nat → Int32) (x1 x2 : Int32) : uMi l y_M_use b_M_use 3 (some .boolean) 1 20 D clsAll (tysAll ca) 22 ad (mG ca ad) w [.ref (ad 0), .int x1, .int x2] (fun r u => if isCh x1 ∧ ¬ x2 < 0 ∧ x2 ≤ 15 then u = up2 (up2 w 0 0 0) 2 x1.toNatClampNeg (s16 (256 + x2)) ∧ r = 1 else u = (up2 w 0 0 0) ∧ r = 0) := by
  refine uStart (by decide) (Nat.le_of_ble_eq_true rfl) ?_
  intro p e s m below meth c ls S hr hlk hK hN hP hl
  have hU : ∀ w ∈ uWS, w ∈ (Cond.code y_M_use b_M_use 3 (some .boolean) :: uWS) := fun w h => List.mem_cons_of_mem _ h
  have hS : va_S (uA 22 ad s.heap.size) s.heap s.heap [] := va_S.rf
  have hl : lv_has ls 3 [(0, .ref (ad 0)), (1, .int x1), (2, .int x2)] := hl
  refine lv_aload_n S.1 S.2.1 d_M_use_0 rfl (lv_at hl 0 rfl) ?_
  refine lv_iconst (v := 0) S.1 S.2.1 d_M_use_1 (by decide) ?_
  refine ur_put (k := 0) (v := .int 0) (g' := mG ca ad (up2 w 0 0 0)) S hK hP (uD _ hJ) hS (by decide) mg_obj rfl (fun w h => hU w (in_M w h)) ty_M tyk_M nm_M 0 (by decide) (hU _ t3_160) rfl rfl rfl (Nat.le_of_ble_eq_true rfl) ms_thr d_M_use_2 (fun H locs hP hS => ?_)
  refine lv_iload_n S.1 S.2.1 d_M_use_5 rfl (lv_at hl 1 rfl) ?_
  refine uSi (n := 1) (As := [.int x1]) (rest := []) S hK hN hP hS (c_M_isChannel hJ (up2 w 0 0 0) x1) ⟨hU, t4_4, t4_2, t1_8, by decide +kernel, by decide, by decide⟩ t4_3 rfl hl.1 rfl (Nat.le_of_ble_eq_true rfl) d_M_use_6 ⟨Nat.le_of_ble_eq_true rfl, Nat.le_of_ble_eq_true rfl⟩ (fun r u H locs hp hP hS => ?_)
  obtain ⟨hu, rfl⟩ := hp
  rw [hu] at hP
  refine lv_if_eq (tgt := 22) S.1 S.2.1 d_M_use_9 (by decide) (fun c_a => ?_) (fun c_a => ?_)
  · have c_a := pI_no c_a
    refine lv_iconst (v := 0) S.1 S.2.1 d_M_use_22 (by decide) ?_
    exact uZret S hr hlk rfl (up2 w 0 0 0) hP hS (by rw [if_neg (fun z => c_a z.1)]; exact ⟨rfl, rfl⟩) d_M_use_23
  · have c_a := pI_yes c_a
    refine lv_iload_n S.1 S.2.1 d_M_use_12 rfl (lv_at hl 2 rfl) ?_
    refine lv_if_lt (tgt := 22) S.1 S.2.1 d_M_use_13 (by decide) (fun c_b => ?_) (fun c_b => ?_)
    · refine lv_iconst (v := 0) S.1 S.2.1 d_M_use_22 (by decide) ?_
      exact uZret S hr hlk rfl (up2 w 0 0 0) hP hS (by rw [if_neg (fun z => z.2.1 c_b)]; exact ⟨rfl, rfl⟩) d_M_use_23
    · refine lv_iload_n S.1 S.2.1 d_M_use_16 rfl (lv_at hl 2 rfl) ?_
      refine lv_bipush (v := 15) S.1 S.2.1 d_M_use_17 (by decide) ?_
      refine lv_icmp_le (tgt := 24) S.1 S.2.1 d_M_use_19 (by decide) (fun c_c => ?_) (fun c_c => ?_)
      · obtain ⟨ch, hch, ech⟩ := isCh_nat c_a
        subst ech
        refine lv_aload_n S.1 S.2.1 d_M_use_24 rfl (lv_at hl 0 rfl) ?_
        refine ur_get (k := 0) (v := .ref (ad 2)) S hK hP (by decide) mg_obj rfl (fun w h => hU w (in_M w h)) 2 (by decide) (hU _ t3_162) rfl d_M_use_25 ?_
        refine lv_iload_n S.1 S.2.1 d_M_use_28 rfl (lv_at hl 1 rfl) ?_
        refine lv_sipush (v := 256) S.1 S.2.1 d_M_use_29 (by decide) ?_
        refine lv_iload_n S.1 S.2.1 d_M_use_32 rfl (lv_at hl 2 rfl) ?_
        refine lv_iadd S.1 S.2.1 d_M_use_33 ?_
        refine lv_i2s (v := s16 (256 + x2)) S.1 S.2.1 d_M_use_34 rfl ?_
        refine ur_sast (k := 2) (n := 64) (f := ((up2 w 0 0 0) 2)) (j := ch) (g' := mG ca ad (up2 (up2 w 0 0 0) 2 ch (s16 (256 + x2)))) S hK hP (uD _ hJ) hS (by decide) 4 (mg_arr 2 (by decide)) rfl rfl hch (by decide) (s16_nar _) (ms_arr 2 (by decide) (by decide) (by decide)) d_M_use_35 (fun H locs hP hS => ?_)
        refine lv_iconst (v := 1) S.1 S.2.1 d_M_use_36 (by decide) ?_
        exact uZret S hr hlk rfl (up2 (up2 w 0 0 0) 2 ch (s16 (256 + x2))) hP hS (by rw [if_pos ⟨c_a, c_b, c_c⟩]; exact ⟨by rw [nI_clamp (by omega)], rfl⟩) d_M_use_37
      · refine lv_iconst (v := 0) S.1 S.2.1 d_M_use_22 (by decide) ?_
        exact uZret S hr hlk rfl (up2 w 0 0 0) hP hS (by rw [if_neg (fun z => c_c z.2.2)]; exact ⟨rfl, rfl⟩) d_M_use_23

set_option maxRecDepth 100000 in
set_option maxHeartbeats 4000000 in
theorem c_M_moveOf {l : Launch} {D : va_G} {ca : Nat → ClassId} {ad : Nat → Nat} (hJ : uJ 22 ad) (w : Nat → Nat → Int32) (q ch : Nat) (hq : q < 40) (hch : ch < 64) : uMi l y_M_moveOf b_M_moveOf 3 (some .int) 0 0 D clsAll (tysAll ca) 22 ad (mG ca ad) w [.ref (ad 0), .int (nI q), .int (nI ch)] (fun r u => u = w ∧ r = w 10 (64 * q + ch)) := by
  refine uStart (by decide) (Nat.le_of_ble_eq_true rfl) ?_
  intro p e s m below meth c ls S hr hlk hK hN hP hl
  have hU : ∀ w ∈ uWS, w ∈ (Cond.code y_M_moveOf b_M_moveOf 3 (some .int) :: uWS) := fun w h => List.mem_cons_of_mem _ h
  have hS : va_S (uA 22 ad s.heap.size) s.heap s.heap [] := va_S.rf
  have hl : lv_has ls 3 [(0, .ref (ad 0)), (1, .int (nI q)), (2, .int (nI ch))] := hl
  refine lv_aload_n S.1 S.2.1 d_M_moveOf_0 rfl (lv_at hl 0 rfl) ?_
  refine ur_get (k := 0) (v := .ref (ad 10)) S hK hP (by decide) mg_obj rfl (fun w h => hU w (in_M w h)) 10 (by decide) (hU _ t3_170) rfl d_M_moveOf_1 ?_
  refine lv_bipush (v := 64) S.1 S.2.1 d_M_moveOf_4 (by decide) ?_
  refine lv_iload_n S.1 S.2.1 d_M_moveOf_6 rfl (lv_at hl 1 rfl) ?_
  refine lv_imul S.1 S.2.1 d_M_moveOf_7 ?_
  refine lv_iload_n S.1 S.2.1 d_M_moveOf_8 rfl (lv_at hl 2 rfl) ?_
  refine lv_iadd S.1 S.2.1 d_M_moveOf_9 ?_
  refine ur_sald (k := 10) (n := 2560) (f := (w 10)) (j := (64 * q + ch)) S hK hP (by decide) 4 (mg_arr 10 (by decide)) rfl (ix64 q ch) (by omega) (by decide) d_M_moveOf_10 ?_
  exact uIret S hr hlk w hP hS (⟨rfl, rfl⟩) d_M_moveOf_11

set_option maxRecDepth 100000 in
set_option maxHeartbeats 4000000 in
theorem c_M_put {l : Launch} {D : va_G} {ca : Nat → ClassId} {ad : Nat → Nat} (hJ : uJ 22 ad) (w : Nat → Nat → Int32) (q ch : Nat) (hq : q < 40) (hch : ch < 64) (x : Int32) : uMv l y_M_put b_M_put 4 (none : Option Jvm.ClassFile.FieldType) 0 0 D clsAll (tysAll ca) 22 ad (mG ca ad) w [.ref (ad 0), .int (nI q), .int (nI ch), .int x] (fun u => u = up2 w 10 (64 * q + ch) (s16 x)) := by
  refine uStart (by decide) (Nat.le_of_ble_eq_true rfl) ?_
  intro p e s m below meth c ls S hr hlk hK hN hP hl
  have hU : ∀ w ∈ uWS, w ∈ (Cond.code y_M_put b_M_put 4 (none : Option Jvm.ClassFile.FieldType) :: uWS) := fun w h => List.mem_cons_of_mem _ h
  have hS : va_S (uA 22 ad s.heap.size) s.heap s.heap [] := va_S.rf
  have hl : lv_has ls 4 [(0, .ref (ad 0)), (1, .int (nI q)), (2, .int (nI ch)), (3, .int x)] := hl
  refine lv_aload_n S.1 S.2.1 d_M_put_0 rfl (lv_at hl 0 rfl) ?_
  refine ur_get (k := 0) (v := .ref (ad 10)) S hK hP (by decide) mg_obj rfl (fun w h => hU w (in_M w h)) 10 (by decide) (hU _ t3_170) rfl d_M_put_1 ?_
  refine lv_bipush (v := 64) S.1 S.2.1 d_M_put_4 (by decide) ?_
  refine lv_iload_n S.1 S.2.1 d_M_put_6 rfl (lv_at hl 1 rfl) ?_
  refine lv_imul S.1 S.2.1 d_M_put_7 ?_
  refine lv_iload_n S.1 S.2.1 d_M_put_8 rfl (lv_at hl 2 rfl) ?_
  refine lv_iadd S.1 S.2.1 d_M_put_9 ?_
  refine lv_iload_n S.1 S.2.1 d_M_put_10 rfl (lv_at hl 3 rfl) ?_
  refine lv_i2s (v := s16 x) S.1 S.2.1 d_M_put_11 rfl ?_
  refine ur_sast (k := 10) (n := 2560) (f := (w 10)) (j := (64 * q + ch)) (g' := mG ca ad (up2 w 10 (64 * q + ch) (s16 x))) S hK hP (uD _ hJ) hS (by decide) 4 (mg_arr 10 (by decide)) rfl (ix64 q ch) (by omega) (by decide) (s16_nar _) (ms_arr 10 (by decide) (by decide) (by decide)) d_M_put_12 (fun H locs hP hS => ?_)
  exact uVret S hr hlk (up2 w 10 (64 * q + ch) (s16 x)) hP hS (rfl) d_M_put_13

set_option maxRecDepth 100000 in
set_option maxHeartbeats 4000000 in
theorem c_M_levelOf {l : Launch} {D : va_G} {ca : Nat → ClassId} {ad : Nat → Nat} (hJ : uJ 22 ad) (w : Nat → Nat → Int32) (x : Int32) (ch : Nat) (hx : x < 272 ∨ x = 300) (hch : ch < 64) : uMi l y_M_levelOf b_M_levelOf 3 (some .int) 0 0 D clsAll (tysAll ca) 22 ad (mG ca ad) w [.ref (ad 0), .int x, .int (nI ch)] (fun r u => u = w ∧ r = mLev w x ch) := by
  refine uStart (by decide) (Nat.le_of_ble_eq_true rfl) ?_
  intro p e s m below meth c ls S hr hlk hK hN hP hl
  have hU : ∀ w ∈ uWS, w ∈ (Cond.code y_M_levelOf b_M_levelOf 3 (some .int) :: uWS) := fun w h => List.mem_cons_of_mem _ h
  have hS : va_S (uA 22 ad s.heap.size) s.heap s.heap [] := va_S.rf
  have hl : lv_has ls 3 [(0, .ref (ad 0)), (1, .int x), (2, .int (nI ch))] := hl
  refine lv_iload_n S.1 S.2.1 d_M_levelOf_0 rfl (lv_at hl 1 rfl) ?_
  refine lv_sipush (v := 256) S.1 S.2.1 d_M_levelOf_1 (by decide) ?_
  refine lv_icmp_ge (tgt := 11) S.1 S.2.1 d_M_levelOf_4 (by decide) (fun c_1 => ?_) (fun c_1 => ?_)
  · refine lv_iload_n S.1 S.2.1 d_M_levelOf_11 rfl (lv_at hl 1 rfl) ?_
    refine lv_sipush (v := 300) S.1 S.2.1 d_M_levelOf_12 (by decide) ?_
    refine lv_icmp_ne (tgt := 22) S.1 S.2.1 d_M_levelOf_15 (by decide) (fun c_2 => ?_) (fun c_2 => ?_)
    · refine lv_aload_n S.1 S.2.1 d_M_levelOf_22 rfl (lv_at hl 0 rfl) ?_
      refine ur_get (k := 0) (v := .ref (ad 3)) S hK hP (by decide) mg_obj rfl (fun w h => hU w (in_M w h)) 3 (by decide) (hU _ t3_163) rfl d_M_levelOf_23 ?_
      refine lv_bipush (v := 64) S.1 S.2.1 d_M_levelOf_26 (by decide) ?_
      refine lv_iload_n S.1 S.2.1 d_M_levelOf_28 rfl (lv_at hl 1 rfl) ?_
      refine lv_sipush (v := 256) S.1 S.2.1 d_M_levelOf_29 (by decide) ?_
      refine lv_isub S.1 S.2.1 d_M_levelOf_32 ?_
      refine lv_imul S.1 S.2.1 d_M_levelOf_33 ?_
      refine lv_iload_n S.1 S.2.1 d_M_levelOf_34 rfl (lv_at hl 2 rfl) ?_
      refine lv_iadd S.1 S.2.1 d_M_levelOf_35 ?_
      refine ur_sald (k := 3) (n := 1024) (f := (w 3)) (j := (64 * (x.toNatClampNeg - 256) + ch)) S hK hP (by decide) 4 (mg_arr 3 (by decide)) rfl (mlev_ix hx c_1 c_2 hch).1 (mlev_ix hx c_1 c_2 hch).2 (by decide) d_M_levelOf_36 ?_
      exact uIret S hr hlk w hP hS (by refine ⟨rfl, ?_⟩; simp [mLev, c_1, c_2]) d_M_levelOf_37
    · refine lv_iconst (v := (-1)) S.1 S.2.1 d_M_levelOf_18 (by decide) ?_
      refine lv_goto (tgt := 37) S.1 S.2.1 d_M_levelOf_19 (by decide) ?_
      exact uIret S hr hlk w hP hS (by refine ⟨rfl, ?_⟩; simp [mLev, c_1, c_2]) d_M_levelOf_37
  · refine lv_iload_n S.1 S.2.1 d_M_levelOf_7 rfl (lv_at hl 1 rfl) ?_
    refine lv_goto (tgt := 37) S.1 S.2.1 d_M_levelOf_8 (by decide) ?_
    exact uIret S hr hlk w hP hS (by refine ⟨rfl, ?_⟩; simp [mLev, c_1]) d_M_levelOf_37

set_option maxRecDepth 100000 in
set_option maxHeartbeats 4000000 in
theorem c_M_find {l : Launch} {D : va_G} {ca : Nat → ClassId} {ad : Nat → Nat} (hJ : uJ 22 ad) (w : Nat → Nat → Int32) (F : Nat) (hF : F = 40) (a b : Int32) : uMi l y_M_find b_M_find 5 (some .int) 0 0 D clsAll (tysAll ca) 22 ad (mG ca ad) w [.ref (ad 0), .int a, .int b] (fun r u => u = w ∧ r = oI (mFnd w a b F)) := by
  refine uStart (by decide) (Nat.le_of_ble_eq_true rfl) ?_
  intro p e s m below meth c ls S hr hlk hK hN hP hl
  have hU : ∀ w ∈ uWS, w ∈ (Cond.code y_M_find b_M_find 5 (some .int) :: uWS) := fun w h => List.mem_cons_of_mem _ h
  have hS : va_S (uA 22 ad s.heap.size) s.heap s.heap [] := va_S.rf
  have hl : lv_has ls 5 [(0, .ref (ad 0)), (1, .int a), (2, .int b)] := hl
  refine lv_iconst (v := (-1)) S.1 S.2.1 d_M_find_0 (by decide) ?_
  refine lv_istore_n (lv' := [(3, .int (-1)), (0, .ref (ad 0)), (1, .int a), (2, .int b)]) S.1 S.2.1 d_M_find_1 rfl hl (by decide) rfl (fun ls hl => ?_)
  refine lv_iconst (v := 0) S.1 S.2.1 d_M_find_2 (by decide) ?_
  refine lv_istore (lv' := [(4, .int 0), (3, .int (-1)), (0, .ref (ad 0)), (1, .int a), (2, .int b)]) S.1 S.2.1 d_M_find_3 hl (by decide) rfl (fun ls hl => ?_)
  have L : ∀ i, i ≤ F → ∀ (H : Heap) (locs : List Loc) (ls : Array Slot), va_P D clsAll (uw 22 ad (mG ca ad w)) H → va_S (uA 22 ad s.heap.size) s.heap H locs → lv_has ls 5 [(4, .int (nI i)), (3, .int (oI (mFnd w a b i))), (0, .ref (ad 0)), (1, .int a), (2, .int b)] → uGi 0 0 D clsAll 22 ad (mG ca ad) (fun r u => u = w ∧ r = oI (mFnd w a b F)) [.ref (ad 0), .int a, .int b] p l e s m below meth c H locs 5 ls [] := by
    refine upTo F ?_ ?_
    · intro H locs ls hP hS hl
      refine lv_iload S.1 S.2.1 d_M_find_5 (lv_at hl 0 rfl) ?_
      refine lv_bipush (v := 40) S.1 S.2.1 d_M_find_7 (by decide) ?_
      refine lv_icmp_ge (tgt := 51) S.1 S.2.1 d_M_find_9 (by decide) (fun c_h => ?_) (fun c_h => ?_)
      · refine lv_iload_n S.1 S.2.1 d_M_find_51 rfl (lv_at hl 1 rfl) ?_
        exact uIret S hr hlk w hP hS (⟨rfl, rfl⟩) d_M_find_52
      · exact absurd (by subst hF; exact nI_le (Nat.le_refl 40) (by decide)) c_h
    · intro i hi ih H locs ls hP hS hl
      refine lv_iload S.1 S.2.1 d_M_find_5 (lv_at hl 0 rfl) ?_
      refine lv_bipush (v := 40) S.1 S.2.1 d_M_find_7 (by decide) ?_
      refine lv_icmp_ge (tgt := 51) S.1 S.2.1 d_M_find_9 (by decide) (fun c_h => ?_) (fun c_h => ?_)
      · exact absurd c_h (nI_ge (b := 40) (by omega) (by decide))
      · refine lv_iload_n S.1 S.2.1 d_M_find_12 rfl (lv_at hl 3 rfl) ?_
        refine lv_if_lt (tgt := 43) S.1 S.2.1 d_M_find_13 (by decide) (fun c_1 => ?_) (fun c_1 => ?_)
        · refine lv_iload_n S.1 S.2.1 d_M_find_43 rfl (lv_at hl 1 rfl) ?_
          refine lv_istore_n (lv' := [(3, .int (oI (mFnd w a b i))), (4, .int (nI i)), (0, .ref (ad 0)), (1, .int a), (2, .int b)]) S.1 S.2.1 d_M_find_44 rfl hl (by decide) rfl (fun ls hl => ?_)
          refine lv_iinc (v := nI (i + 1)) (lv' := [(4, .int (nI (i + 1))), (3, .int (oI (mFnd w a b i))), (0, .ref (ad 0)), (1, .int a), (2, .int b)]) S.1 S.2.1 d_M_find_45 hl (k := 1) rfl (nI_1 i) (by decide) rfl (fun ls hl => ?_)
          refine lv_goto (tgt := 5) S.1 S.2.1 d_M_find_48 (by decide) ?_
          exact ih _ _ ls hP hS (by rw [show mFnd w a b (i + 1) = mFnd w a b i from by rw [mFnd, if_neg (fun z => z.1 c_1)]]; exact lv_sub hl [0, 1, 2, 3, 4] rfl)
        · refine lv_aload_n S.1 S.2.1 d_M_find_16 rfl (lv_at hl 2 rfl) ?_
          refine ur_get (k := 0) (v := .ref (ad 4)) S hK hP (by decide) mg_obj rfl (fun w h => hU w (in_M w h)) 4 (by decide) (hU _ t3_164) rfl d_M_find_17 ?_
          refine lv_iload S.1 S.2.1 d_M_find_20 (lv_at hl 0 rfl) ?_
          refine ur_iald (k := 4) (n := 40) (f := (w 4)) (j := i) S hK hP (by decide) 0 (mg_arr 4 (by decide)) rfl rfl (by omega) (by decide) d_M_find_22 ?_
          refine lv_iload_n S.1 S.2.1 d_M_find_23 rfl (lv_at hl 3 rfl) ?_
          refine lv_icmp_ne (tgt := 43) S.1 S.2.1 d_M_find_24 (by decide) (fun c_2 => ?_) (fun c_2 => ?_)
          · refine lv_iload_n S.1 S.2.1 d_M_find_43 rfl (lv_at hl 1 rfl) ?_
            refine lv_istore_n (lv' := [(3, .int (oI (mFnd w a b i))), (4, .int (nI i)), (0, .ref (ad 0)), (1, .int a), (2, .int b)]) S.1 S.2.1 d_M_find_44 rfl hl (by decide) rfl (fun ls hl => ?_)
            refine lv_iinc (v := nI (i + 1)) (lv' := [(4, .int (nI (i + 1))), (3, .int (oI (mFnd w a b i))), (0, .ref (ad 0)), (1, .int a), (2, .int b)]) S.1 S.2.1 d_M_find_45 hl (k := 1) rfl (nI_1 i) (by decide) rfl (fun ls hl => ?_)
            refine lv_goto (tgt := 5) S.1 S.2.1 d_M_find_48 (by decide) ?_
            exact ih _ _ ls hP hS (by rw [show mFnd w a b (i + 1) = mFnd w a b i from by rw [mFnd, if_neg (fun z => c_2 z.2.1)]]; exact lv_sub hl [0, 1, 2, 3, 4] rfl)
          · refine lv_aload_n S.1 S.2.1 d_M_find_27 rfl (lv_at hl 2 rfl) ?_
            refine ur_get (k := 0) (v := .ref (ad 5)) S hK hP (by decide) mg_obj rfl (fun w h => hU w (in_M w h)) 5 (by decide) (hU _ t3_165) rfl d_M_find_28 ?_
            refine lv_iload S.1 S.2.1 d_M_find_31 (lv_at hl 0 rfl) ?_
            refine ur_iald (k := 5) (n := 40) (f := (w 5)) (j := i) S hK hP (by decide) 0 (mg_arr 5 (by decide)) rfl rfl (by omega) (by decide) d_M_find_33 ?_
            refine lv_iload_n S.1 S.2.1 d_M_find_34 rfl (lv_at hl 4 rfl) ?_
            refine lv_icmp_ne (tgt := 43) S.1 S.2.1 d_M_find_35 (by decide) (fun c_3 => ?_) (fun c_3 => ?_)
            · refine lv_iload_n S.1 S.2.1 d_M_find_43 rfl (lv_at hl 1 rfl) ?_
              refine lv_istore_n (lv' := [(3, .int (oI (mFnd w a b i))), (4, .int (nI i)), (0, .ref (ad 0)), (1, .int a), (2, .int b)]) S.1 S.2.1 d_M_find_44 rfl hl (by decide) rfl (fun ls hl => ?_)
              refine lv_iinc (v := nI (i + 1)) (lv' := [(4, .int (nI (i + 1))), (3, .int (oI (mFnd w a b i))), (0, .ref (ad 0)), (1, .int a), (2, .int b)]) S.1 S.2.1 d_M_find_45 hl (k := 1) rfl (nI_1 i) (by decide) rfl (fun ls hl => ?_)
              refine lv_goto (tgt := 5) S.1 S.2.1 d_M_find_48 (by decide) ?_
              exact ih _ _ ls hP hS (by rw [show mFnd w a b (i + 1) = mFnd w a b i from by rw [mFnd, if_neg (fun z => c_3 z.2.2)]]; exact lv_sub hl [0, 1, 2, 3, 4] rfl)
            · refine lv_iload S.1 S.2.1 d_M_find_38 (lv_at hl 0 rfl) ?_
              refine lv_goto (tgt := 44) S.1 S.2.1 d_M_find_40 (by decide) ?_
              refine lv_istore_n (lv' := [(3, .int (nI i)), (4, .int (nI i)), (0, .ref (ad 0)), (1, .int a), (2, .int b)]) S.1 S.2.1 d_M_find_44 rfl hl (by decide) rfl (fun ls hl => ?_)
              refine lv_iinc (v := nI (i + 1)) (lv' := [(4, .int (nI (i + 1))), (3, .int (nI i)), (0, .ref (ad 0)), (1, .int a), (2, .int b)]) S.1 S.2.1 d_M_find_45 hl (k := 1) rfl (nI_1 i) (by decide) rfl (fun ls hl => ?_)
              refine lv_goto (tgt := 5) S.1 S.2.1 d_M_find_48 (by decide) ?_
              exact ih _ _ ls hP hS (by rw [show mFnd w a b (i + 1) = some i from by rw [mFnd, if_pos ⟨c_1, c_2, c_3⟩]]; exact lv_sub hl [0, 1, 2, 3, 4] rfl)
  exact L 0 (Nat.zero_le _) _ _ ls hP hS (lv_sub hl [0, 1, 2, 3, 4] rfl)

set_option maxRecDepth 100000 in
set_option maxHeartbeats 4000000 in
theorem c_M_above {l : Launch} {D : va_G} {ca : Nat → ClassId} {ad : Nat → Nat} (hJ : uJ 22 ad) (w : Nat → Nat → Int32) (F : Nat) (hF : F = 40) (a b : Int32) : uMi l y_M_above b_M_above 5 (some .int) 0 0 D clsAll (tysAll ca) 22 ad (mG ca ad) w [.ref (ad 0), .int a, .int b] (fun r u => u = w ∧ r = oI (mAbv w a b F)) := by
  refine uStart (by decide) (Nat.le_of_ble_eq_true rfl) ?_
  intro p e s m below meth c ls S hr hlk hK hN hP hl
  have hU : ∀ w ∈ uWS, w ∈ (Cond.code y_M_above b_M_above 5 (some .int) :: uWS) := fun w h => List.mem_cons_of_mem _ h
  have hS : va_S (uA 22 ad s.heap.size) s.heap s.heap [] := va_S.rf
  have hl : lv_has ls 5 [(0, .ref (ad 0)), (1, .int a), (2, .int b)] := hl
  refine lv_iconst (v := (-1)) S.1 S.2.1 d_M_above_0 (by decide) ?_
  refine lv_istore_n (lv' := [(3, .int (-1)), (0, .ref (ad 0)), (1, .int a), (2, .int b)]) S.1 S.2.1 d_M_above_1 rfl hl (by decide) rfl (fun ls hl => ?_)
  refine lv_iconst (v := 0) S.1 S.2.1 d_M_above_2 (by decide) ?_
  refine lv_istore (lv' := [(4, .int 0), (3, .int (-1)), (0, .ref (ad 0)), (1, .int a), (2, .int b)]) S.1 S.2.1 d_M_above_3 hl (by decide) rfl (fun ls hl => ?_)
  have L : ∀ i, i ≤ F → ∀ (H : Heap) (locs : List Loc) (ls : Array Slot), va_P D clsAll (uw 22 ad (mG ca ad w)) H → va_S (uA 22 ad s.heap.size) s.heap H locs → lv_has ls 5 [(4, .int (nI i)), (3, .int (oI (mAbv w a b i))), (0, .ref (ad 0)), (1, .int a), (2, .int b)] → uGi 0 0 D clsAll 22 ad (mG ca ad) (fun r u => u = w ∧ r = oI (mAbv w a b F)) [.ref (ad 0), .int a, .int b] p l e s m below meth c H locs 5 ls [] := by
    refine upTo F ?_ ?_
    · intro H locs ls hP hS hl
      refine lv_iload S.1 S.2.1 d_M_above_5 (lv_at hl 0 rfl) ?_
      refine lv_bipush (v := 40) S.1 S.2.1 d_M_above_7 (by decide) ?_
      refine lv_icmp_ge (tgt := 63) S.1 S.2.1 d_M_above_9 (by decide) (fun c_h => ?_) (fun c_h => ?_)
      · refine lv_iload_n S.1 S.2.1 d_M_above_63 rfl (lv_at hl 1 rfl) ?_
        exact uIret S hr hlk w hP hS (⟨rfl, rfl⟩) d_M_above_64
      · exact absurd (by subst hF; exact nI_le (Nat.le_refl 40) (by decide)) c_h
    · intro i hi ih H locs ls hP hS hl
      refine lv_iload S.1 S.2.1 d_M_above_5 (lv_at hl 0 rfl) ?_
      refine lv_bipush (v := 40) S.1 S.2.1 d_M_above_7 (by decide) ?_
      refine lv_icmp_ge (tgt := 63) S.1 S.2.1 d_M_above_9 (by decide) (fun c_h => ?_) (fun c_h => ?_)
      · exact absurd c_h (nI_ge (b := 40) (by omega) (by decide))
      · refine lv_aload_n S.1 S.2.1 d_M_above_12 rfl (lv_at hl 2 rfl) ?_
        refine ur_get (k := 0) (v := .ref (ad 4)) S hK hP (by decide) mg_obj rfl (fun w h => hU w (in_M w h)) 4 (by decide) (hU _ t3_164) rfl d_M_above_13 ?_
        refine lv_iload S.1 S.2.1 d_M_above_16 (lv_at hl 0 rfl) ?_
        refine ur_iald (k := 4) (n := 40) (f := (w 4)) (j := i) S hK hP (by decide) 0 (mg_arr 4 (by decide)) rfl rfl (by omega) (by decide) d_M_above_18 ?_
        refine lv_iload_n S.1 S.2.1 d_M_above_19 rfl (lv_at hl 3 rfl) ?_
        refine lv_icmp_ne (tgt := 57) S.1 S.2.1 d_M_above_20 (by decide) (fun c_1 => ?_) (fun c_1 => ?_)
        · refine lv_iinc (v := nI (i + 1)) (lv' := [(4, .int (nI (i + 1))), (3, .int (oI (mAbv w a b i))), (0, .ref (ad 0)), (1, .int a), (2, .int b)]) S.1 S.2.1 d_M_above_57 hl (k := 0) rfl (nI_1 i) (by decide) rfl (fun ls hl => ?_)
          refine lv_goto (tgt := 5) S.1 S.2.1 d_M_above_60 (by decide) ?_
          exact ih _ _ ls hP hS (by rw [show mAbv w a b (i + 1) = mAbv w a b i from by rw [mAbv, if_neg c_1]]; exact lv_sub hl [0, 1, 2, 3, 4] rfl)
        · refine lv_aload_n S.1 S.2.1 d_M_above_23 rfl (lv_at hl 2 rfl) ?_
          refine ur_get (k := 0) (v := .ref (ad 5)) S hK hP (by decide) mg_obj rfl (fun w h => hU w (in_M w h)) 5 (by decide) (hU _ t3_165) rfl d_M_above_24 ?_
          refine lv_iload S.1 S.2.1 d_M_above_27 (lv_at hl 0 rfl) ?_
          refine ur_iald (k := 5) (n := 40) (f := (w 5)) (j := i) S hK hP (by decide) 0 (mg_arr 5 (by decide)) rfl rfl (by omega) (by decide) d_M_above_29 ?_
          refine lv_iload_n S.1 S.2.1 d_M_above_30 rfl (lv_at hl 4 rfl) ?_
          refine lv_icmp_le (tgt := 57) S.1 S.2.1 d_M_above_31 (by decide) (fun c_2 => ?_) (fun c_2 => ?_)
          · refine lv_iinc (v := nI (i + 1)) (lv' := [(4, .int (nI (i + 1))), (3, .int (oI (mAbv w a b i))), (0, .ref (ad 0)), (1, .int a), (2, .int b)]) S.1 S.2.1 d_M_above_57 hl (k := 0) rfl (nI_1 i) (by decide) rfl (fun ls hl => ?_)
            refine lv_goto (tgt := 5) S.1 S.2.1 d_M_above_60 (by decide) ?_
            exact ih _ _ ls hP hS (by rw [show mAbv w a b (i + 1) = mAbv w a b i from by rw [mAbv, if_pos c_1, if_pos c_2]]; exact lv_sub hl [0, 1, 2, 3, 4] rfl)
          · refine lv_iload_n S.1 S.2.1 d_M_above_34 rfl (lv_at hl 1 rfl) ?_
            rcases hX_1 : mAbv w a b i with _ | p_2
            · refine lv_if_lt (tgt := 54) S.1 S.2.1 d_M_above_35 (by decide) (fun c_3 => ?_) (fun c_3 => ?_)
              · refine lv_iload S.1 S.2.1 d_M_above_54 (lv_at hl 0 rfl) ?_
                refine lv_istore_n (lv' := [(3, .int (nI i)), (4, .int (nI i)), (0, .ref (ad 0)), (1, .int a), (2, .int b)]) S.1 S.2.1 d_M_above_56 rfl hl (by decide) rfl (fun ls hl => ?_)
                refine lv_iinc (v := nI (i + 1)) (lv' := [(4, .int (nI (i + 1))), (3, .int (nI i)), (0, .ref (ad 0)), (1, .int a), (2, .int b)]) S.1 S.2.1 d_M_above_57 hl (k := 1) rfl (nI_1 i) (by decide) rfl (fun ls hl => ?_)
                refine lv_goto (tgt := 5) S.1 S.2.1 d_M_above_60 (by decide) ?_
                exact ih _ _ ls hP hS (by rw [show mAbv w a b (i + 1) = some i from by rw [mAbv, if_pos c_1, if_neg c_2, hX_1]]; exact lv_sub hl [0, 1, 2, 3, 4] rfl)
              · exact absurd (by decide) c_3
            · have hp_2 := mAbv_lt _ _ hX_1
              refine lv_if_lt (tgt := 54) S.1 S.2.1 d_M_above_35 (by decide) (fun c_4 => ?_) (fun c_4 => ?_)
              · exact absurd c_4 (nI_pos (by omega))
              · refine lv_aload_n S.1 S.2.1 d_M_above_38 rfl (lv_at hl 2 rfl) ?_
                refine ur_get (k := 0) (v := .ref (ad 5)) S hK hP (by decide) mg_obj rfl (fun w h => hU w (in_M w h)) 5 (by decide) (hU _ t3_165) rfl d_M_above_39 ?_
                refine lv_iload S.1 S.2.1 d_M_above_42 (lv_at hl 0 rfl) ?_
                refine ur_iald (k := 5) (n := 40) (f := (w 5)) (j := i) S hK hP (by decide) 0 (mg_arr 5 (by decide)) rfl rfl (by omega) (by decide) d_M_above_44 ?_
                refine lv_aload_n S.1 S.2.1 d_M_above_45 rfl (lv_at hl 2 rfl) ?_
                refine ur_get (k := 0) (v := .ref (ad 5)) S hK hP (by decide) mg_obj rfl (fun w h => hU w (in_M w h)) 5 (by decide) (hU _ t3_165) rfl d_M_above_46 ?_
                refine lv_iload_n S.1 S.2.1 d_M_above_49 rfl (lv_at hl 1 rfl) ?_
                refine ur_iald (k := 5) (n := 40) (f := (w 5)) (j := p_2) S hK hP (by decide) 0 (mg_arr 5 (by decide)) rfl (by rw [hX_1]; rfl) (by omega) (by decide) d_M_above_50 ?_
                refine lv_icmp_ge (tgt := 57) S.1 S.2.1 d_M_above_51 (by decide) (fun c_3 => ?_) (fun c_3 => ?_)
                · refine lv_iinc (v := nI (i + 1)) (lv' := [(4, .int (nI (i + 1))), (3, .int (oI (mAbv w a b i))), (0, .ref (ad 0)), (1, .int a), (2, .int b)]) S.1 S.2.1 d_M_above_57 hl (k := 0) rfl (nI_1 i) (by decide) rfl (fun ls hl => ?_)
                  refine lv_goto (tgt := 5) S.1 S.2.1 d_M_above_60 (by decide) ?_
                  exact ih _ _ ls hP hS (by rw [show mAbv w a b (i + 1) = some p_2 from by rw [mAbv, if_pos c_1, if_neg c_2, hX_1]; show ite _ _ _ = _; rw [if_pos c_3]]; rw [hX_1] at hl; exact lv_sub hl [0, 1, 2, 3, 4] rfl)
                · refine lv_iload S.1 S.2.1 d_M_above_54 (lv_at hl 0 rfl) ?_
                  refine lv_istore_n (lv' := [(3, .int (nI i)), (4, .int (nI i)), (0, .ref (ad 0)), (1, .int a), (2, .int b)]) S.1 S.2.1 d_M_above_56 rfl hl (by decide) rfl (fun ls hl => ?_)
                  refine lv_iinc (v := nI (i + 1)) (lv' := [(4, .int (nI (i + 1))), (3, .int (nI i)), (0, .ref (ad 0)), (1, .int a), (2, .int b)]) S.1 S.2.1 d_M_above_57 hl (k := 1) rfl (nI_1 i) (by decide) rfl (fun ls hl => ?_)
                  refine lv_goto (tgt := 5) S.1 S.2.1 d_M_above_60 (by decide) ?_
                  exact ih _ _ ls hP hS (by rw [show mAbv w a b (i + 1) = some i from by rw [mAbv, if_pos c_1, if_neg c_2, hX_1]; show ite _ _ _ = _; rw [if_neg c_3]]; exact lv_sub hl [0, 1, 2, 3, 4] rfl)
  exact L 0 (Nat.zero_le _) _ _ ls hP hS (lv_sub hl [0, 1, 2, 3, 4] rfl)

set_option maxRecDepth 100000 in
set_option maxHeartbeats 4000000 in
theorem c_M_below {l : Launch} {D : va_G} {ca : Nat → ClassId} {ad : Nat → Nat} (hJ : uJ 22 ad) (w : Nat → Nat → Int32) (F : Nat) (hF : F = 40) (a b : Int32) : uMi l y_M_below b_M_below 5 (some .int) 0 0 D clsAll (tysAll ca) 22 ad (mG ca ad) w [.ref (ad 0), .int a, .int b] (fun r u => u = w ∧ r = oI (mBlw w a b F)) := by
  refine uStart (by decide) (Nat.le_of_ble_eq_true rfl) ?_
  intro p e s m below meth c ls S hr hlk hK hN hP hl
  have hU : ∀ w ∈ uWS, w ∈ (Cond.code y_M_below b_M_below 5 (some .int) :: uWS) := fun w h => List.mem_cons_of_mem _ h
  have hS : va_S (uA 22 ad s.heap.size) s.heap s.heap [] := va_S.rf
  have hl : lv_has ls 5 [(0, .ref (ad 0)), (1, .int a), (2, .int b)] := hl
  refine lv_iconst (v := (-1)) S.1 S.2.1 d_M_below_0 (by decide) ?_
  refine lv_istore_n (lv' := [(3, .int (-1)), (0, .ref (ad 0)), (1, .int a), (2, .int b)]) S.1 S.2.1 d_M_below_1 rfl hl (by decide) rfl (fun ls hl => ?_)
  refine lv_iconst (v := 0) S.1 S.2.1 d_M_below_2 (by decide) ?_
  refine lv_istore (lv' := [(4, .int 0), (3, .int (-1)), (0, .ref (ad 0)), (1, .int a), (2, .int b)]) S.1 S.2.1 d_M_below_3 hl (by decide) rfl (fun ls hl => ?_)
  have L : ∀ i, i ≤ F → ∀ (H : Heap) (locs : List Loc) (ls : Array Slot), va_P D clsAll (uw 22 ad (mG ca ad w)) H → va_S (uA 22 ad s.heap.size) s.heap H locs → lv_has ls 5 [(4, .int (nI i)), (3, .int (oI (mBlw w a b i))), (0, .ref (ad 0)), (1, .int a), (2, .int b)] → uGi 0 0 D clsAll 22 ad (mG ca ad) (fun r u => u = w ∧ r = oI (mBlw w a b F)) [.ref (ad 0), .int a, .int b] p l e s m below meth c H locs 5 ls [] := by
    refine upTo F ?_ ?_
    · intro H locs ls hP hS hl
      refine lv_iload S.1 S.2.1 d_M_below_5 (lv_at hl 0 rfl) ?_
      refine lv_bipush (v := 40) S.1 S.2.1 d_M_below_7 (by decide) ?_
      refine lv_icmp_ge (tgt := 63) S.1 S.2.1 d_M_below_9 (by decide) (fun c_h => ?_) (fun c_h => ?_)
      · refine lv_iload_n S.1 S.2.1 d_M_below_63 rfl (lv_at hl 1 rfl) ?_
        exact uIret S hr hlk w hP hS (⟨rfl, rfl⟩) d_M_below_64
      · exact absurd (by subst hF; exact nI_le (Nat.le_refl 40) (by decide)) c_h
    · intro i hi ih H locs ls hP hS hl
      refine lv_iload S.1 S.2.1 d_M_below_5 (lv_at hl 0 rfl) ?_
      refine lv_bipush (v := 40) S.1 S.2.1 d_M_below_7 (by decide) ?_
      refine lv_icmp_ge (tgt := 63) S.1 S.2.1 d_M_below_9 (by decide) (fun c_h => ?_) (fun c_h => ?_)
      · exact absurd c_h (nI_ge (b := 40) (by omega) (by decide))
      · refine lv_aload_n S.1 S.2.1 d_M_below_12 rfl (lv_at hl 2 rfl) ?_
        refine ur_get (k := 0) (v := .ref (ad 4)) S hK hP (by decide) mg_obj rfl (fun w h => hU w (in_M w h)) 4 (by decide) (hU _ t3_164) rfl d_M_below_13 ?_
        refine lv_iload S.1 S.2.1 d_M_below_16 (lv_at hl 0 rfl) ?_
        refine ur_iald (k := 4) (n := 40) (f := (w 4)) (j := i) S hK hP (by decide) 0 (mg_arr 4 (by decide)) rfl rfl (by omega) (by decide) d_M_below_18 ?_
        refine lv_iload_n S.1 S.2.1 d_M_below_19 rfl (lv_at hl 3 rfl) ?_
        refine lv_icmp_ne (tgt := 57) S.1 S.2.1 d_M_below_20 (by decide) (fun c_1 => ?_) (fun c_1 => ?_)
        · refine lv_iinc (v := nI (i + 1)) (lv' := [(4, .int (nI (i + 1))), (3, .int (oI (mBlw w a b i))), (0, .ref (ad 0)), (1, .int a), (2, .int b)]) S.1 S.2.1 d_M_below_57 hl (k := 0) rfl (nI_1 i) (by decide) rfl (fun ls hl => ?_)
          refine lv_goto (tgt := 5) S.1 S.2.1 d_M_below_60 (by decide) ?_
          exact ih _ _ ls hP hS (by rw [show mBlw w a b (i + 1) = mBlw w a b i from by rw [mBlw, if_neg c_1]]; exact lv_sub hl [0, 1, 2, 3, 4] rfl)
        · refine lv_aload_n S.1 S.2.1 d_M_below_23 rfl (lv_at hl 2 rfl) ?_
          refine ur_get (k := 0) (v := .ref (ad 5)) S hK hP (by decide) mg_obj rfl (fun w h => hU w (in_M w h)) 5 (by decide) (hU _ t3_165) rfl d_M_below_24 ?_
          refine lv_iload S.1 S.2.1 d_M_below_27 (lv_at hl 0 rfl) ?_
          refine ur_iald (k := 5) (n := 40) (f := (w 5)) (j := i) S hK hP (by decide) 0 (mg_arr 5 (by decide)) rfl rfl (by omega) (by decide) d_M_below_29 ?_
          refine lv_iload_n S.1 S.2.1 d_M_below_30 rfl (lv_at hl 4 rfl) ?_
          refine lv_icmp_ge (tgt := 57) S.1 S.2.1 d_M_below_31 (by decide) (fun c_2 => ?_) (fun c_2 => ?_)
          · refine lv_iinc (v := nI (i + 1)) (lv' := [(4, .int (nI (i + 1))), (3, .int (oI (mBlw w a b i))), (0, .ref (ad 0)), (1, .int a), (2, .int b)]) S.1 S.2.1 d_M_below_57 hl (k := 0) rfl (nI_1 i) (by decide) rfl (fun ls hl => ?_)
            refine lv_goto (tgt := 5) S.1 S.2.1 d_M_below_60 (by decide) ?_
            exact ih _ _ ls hP hS (by rw [show mBlw w a b (i + 1) = mBlw w a b i from by rw [mBlw, if_pos c_1, if_pos c_2]]; exact lv_sub hl [0, 1, 2, 3, 4] rfl)
          · refine lv_iload_n S.1 S.2.1 d_M_below_34 rfl (lv_at hl 1 rfl) ?_
            rcases hX_1 : mBlw w a b i with _ | p_2
            · refine lv_if_lt (tgt := 54) S.1 S.2.1 d_M_below_35 (by decide) (fun c_3 => ?_) (fun c_3 => ?_)
              · refine lv_iload S.1 S.2.1 d_M_below_54 (lv_at hl 0 rfl) ?_
                refine lv_istore_n (lv' := [(3, .int (nI i)), (4, .int (nI i)), (0, .ref (ad 0)), (1, .int a), (2, .int b)]) S.1 S.2.1 d_M_below_56 rfl hl (by decide) rfl (fun ls hl => ?_)
                refine lv_iinc (v := nI (i + 1)) (lv' := [(4, .int (nI (i + 1))), (3, .int (nI i)), (0, .ref (ad 0)), (1, .int a), (2, .int b)]) S.1 S.2.1 d_M_below_57 hl (k := 1) rfl (nI_1 i) (by decide) rfl (fun ls hl => ?_)
                refine lv_goto (tgt := 5) S.1 S.2.1 d_M_below_60 (by decide) ?_
                exact ih _ _ ls hP hS (by rw [show mBlw w a b (i + 1) = some i from by rw [mBlw, if_pos c_1, if_neg c_2, hX_1]]; exact lv_sub hl [0, 1, 2, 3, 4] rfl)
              · exact absurd (by decide) c_3
            · have hp_2 := mBlw_lt _ _ hX_1
              refine lv_if_lt (tgt := 54) S.1 S.2.1 d_M_below_35 (by decide) (fun c_4 => ?_) (fun c_4 => ?_)
              · exact absurd c_4 (nI_pos (by omega))
              · refine lv_aload_n S.1 S.2.1 d_M_below_38 rfl (lv_at hl 2 rfl) ?_
                refine ur_get (k := 0) (v := .ref (ad 5)) S hK hP (by decide) mg_obj rfl (fun w h => hU w (in_M w h)) 5 (by decide) (hU _ t3_165) rfl d_M_below_39 ?_
                refine lv_iload S.1 S.2.1 d_M_below_42 (lv_at hl 0 rfl) ?_
                refine ur_iald (k := 5) (n := 40) (f := (w 5)) (j := i) S hK hP (by decide) 0 (mg_arr 5 (by decide)) rfl rfl (by omega) (by decide) d_M_below_44 ?_
                refine lv_aload_n S.1 S.2.1 d_M_below_45 rfl (lv_at hl 2 rfl) ?_
                refine ur_get (k := 0) (v := .ref (ad 5)) S hK hP (by decide) mg_obj rfl (fun w h => hU w (in_M w h)) 5 (by decide) (hU _ t3_165) rfl d_M_below_46 ?_
                refine lv_iload_n S.1 S.2.1 d_M_below_49 rfl (lv_at hl 1 rfl) ?_
                refine ur_iald (k := 5) (n := 40) (f := (w 5)) (j := p_2) S hK hP (by decide) 0 (mg_arr 5 (by decide)) rfl (by rw [hX_1]; rfl) (by omega) (by decide) d_M_below_50 ?_
                refine lv_icmp_le (tgt := 57) S.1 S.2.1 d_M_below_51 (by decide) (fun c_3 => ?_) (fun c_3 => ?_)
                · refine lv_iinc (v := nI (i + 1)) (lv' := [(4, .int (nI (i + 1))), (3, .int (oI (mBlw w a b i))), (0, .ref (ad 0)), (1, .int a), (2, .int b)]) S.1 S.2.1 d_M_below_57 hl (k := 0) rfl (nI_1 i) (by decide) rfl (fun ls hl => ?_)
                  refine lv_goto (tgt := 5) S.1 S.2.1 d_M_below_60 (by decide) ?_
                  exact ih _ _ ls hP hS (by rw [show mBlw w a b (i + 1) = some p_2 from by rw [mBlw, if_pos c_1, if_neg c_2, hX_1]; show ite _ _ _ = _; rw [if_pos c_3]]; rw [hX_1] at hl; exact lv_sub hl [0, 1, 2, 3, 4] rfl)
                · refine lv_iload S.1 S.2.1 d_M_below_54 (lv_at hl 0 rfl) ?_
                  refine lv_istore_n (lv' := [(3, .int (nI i)), (4, .int (nI i)), (0, .ref (ad 0)), (1, .int a), (2, .int b)]) S.1 S.2.1 d_M_below_56 rfl hl (by decide) rfl (fun ls hl => ?_)
                  refine lv_iinc (v := nI (i + 1)) (lv' := [(4, .int (nI (i + 1))), (3, .int (nI i)), (0, .ref (ad 0)), (1, .int a), (2, .int b)]) S.1 S.2.1 d_M_below_57 hl (k := 1) rfl (nI_1 i) (by decide) rfl (fun ls hl => ?_)
                  refine lv_goto (tgt := 5) S.1 S.2.1 d_M_below_60 (by decide) ?_
                  exact ih _ _ ls hP hS (by rw [show mBlw w a b (i + 1) = some i from by rw [mBlw, if_pos c_1, if_neg c_2, hX_1]; show ite _ _ _ = _; rw [if_neg c_3]]; exact lv_sub hl [0, 1, 2, 3, 4] rfl)
  exact L 0 (Nat.zero_le _) _ _ ls hP hS (lv_sub hl [0, 1, 2, 3, 4] rfl)
