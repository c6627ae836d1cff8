/-! The desk: methods that throw nothing (printed by wip/gen/gen_x8.py) -/
set_option maxRecDepth 100000 in
set_option maxHeartbeats 4000000 in
theorem c_D_isTellable {l : Launch} {D : va_G} {ca : Nat → ClassId} {ad : Nat → Nat} (hJ : uJ 165 ad) (v : Nat → Nat → Nat → Int32) (π : Nat → Nat) (x1 : Int32) : uMi l y_D_isTellable b_D_isTellable 2 (some .boolean) 0 0 D clsAll (tysAll ca) 165 ad (xG ca ad) (v, π) [.ref (ad 0), .int x1] (fun r u => u = (v, π) ∧ r = pI (¬ x1 < v 5 0 0 ∧ ¬ 1000000000 < x1)) := by
  refine uStart (by decide) (Nat.le_of_ble_eq_true rfl) ?_
  intro p e s m below meth c ls S hr hlk hK hN hP hl
  have hU : ∀ w ∈ uWS, w ∈ (Cond.code y_D_isTellable b_D_isTellable 2 (some .boolean) :: uWS) := fun w h => List.mem_cons_of_mem _ h
  have hS : va_S (uA 165 ad s.heap.size) s.heap s.heap [] := va_S.rf
  have hl : lv_has ls 2 [(0, .ref (ad 0)), (1, .int x1)] := hl
  refine lv_iload_n S.1 S.2.1 d_D_isTellable_0 rfl (lv_at hl 1 rfl) ?_
  refine lv_aload_n S.1 S.2.1 d_D_isTellable_1 rfl (lv_at hl 0 rfl) ?_
  refine ur_get (k := 0) (v := .int (v 5 0 0)) S hK hP (by decide) xg_desk rfl (fun w h => hU w (in_D w h)) 5 (by decide) (hU _ t1_163) rfl d_D_isTellable_2 ?_
  refine lv_icmp_lt (tgt := 18) S.1 S.2.1 d_D_isTellable_5 (by decide) (fun c_1 => ?_) (fun c_1 => ?_)
  · refine lv_iconst (v := 0) S.1 S.2.1 d_D_isTellable_18 (by decide) ?_
    exact uZret S hr hlk rfl (v, π) hP hS (by refine ⟨rfl, ?_⟩; simp [pI, c_1]) d_D_isTellable_19
  · refine lv_iload_n S.1 S.2.1 d_D_isTellable_8 rfl (lv_at hl 1 rfl) ?_
    refine lv_ldc (v := 1000000000) S.1 S.2.1 S.2.2.2.1 (S.2.2.2.2 _ (hU _ t3_91)) d_D_isTellable_9 ?_
    refine lv_icmp_gt (tgt := 18) S.1 S.2.1 d_D_isTellable_11 (by decide) (fun c_2 => ?_) (fun c_2 => ?_)
    · refine lv_iconst (v := 0) S.1 S.2.1 d_D_isTellable_18 (by decide) ?_
      exact uZret S hr hlk rfl (v, π) hP hS (by refine ⟨rfl, ?_⟩; simp [pI, c_1, c_2]) d_D_isTellable_19
    · refine lv_iconst (v := 1) S.1 S.2.1 d_D_isTellable_14 (by decide) ?_
      refine lv_goto (tgt := 19) S.1 S.2.1 d_D_isTellable_15 (by decide) ?_
      exact uZret S hr hlk rfl (v, π) hP hS (by refine ⟨rfl, ?_⟩; simp [pI, c_1, c_2]) d_D_isTellable_19

set_option maxRecDepth 100000 in
set_option maxHeartbeats 4000000 in
theorem c_D_kind {l : Launch} {D : va_G} {ca : Nat → ClassId} {ad : Nat → Nat} (hJ : uJ 165 ad) (v : Nat → Nat → Nat → Int32) (π : Nat → Nat) (x1 x2 : Int32) (hz : vp_nar .boolean x2 = x2) : uMi l y_D_kind b_D_kind 3 (some .boolean) 1 20 D clsAll (tysAll ca) 165 ad (xG ca ad) (v, π) [.ref (ad 0), .int x1, .int x2] (fun r u => if isCh x1 then u = (up3 v 0 0 x1.toNatClampNeg x2, π) ∧ r = 1 else u = (v, π) ∧ r = 0) := by
  refine uStart (by decide) (Nat.le_of_ble_eq_true rfl) ?_
  intro p e s m below meth c ls S hr hlk hK hN hP hl
  have hU : ∀ w ∈ uWS, w ∈ (Cond.code y_D_kind b_D_kind 3 (some .boolean) :: uWS) := fun w h => List.mem_cons_of_mem _ h
  have hS : va_S (uA 165 ad s.heap.size) s.heap s.heap [] := va_S.rf
  have hl : lv_has ls 3 [(0, .ref (ad 0)), (1, .int x1), (2, .int x2)] := hl
  refine lv_iload_n S.1 S.2.1 d_D_kind_0 rfl (lv_at hl 1 rfl) ?_
  refine uSi (n := 1) (As := [.int x1]) (rest := []) S hK hN hP hS (c_D_isChannel hJ v π x1) ⟨hU, t1_186, t1_184, t1_1, by decide +kernel, by decide, by decide⟩ t1_185 rfl hl.1 rfl (Nat.le_of_ble_eq_true rfl) d_D_kind_1 ⟨Nat.le_of_ble_eq_true rfl, Nat.le_of_ble_eq_true rfl⟩ (fun r u H locs hp hP hS => ?_)
  obtain ⟨rfl, rfl⟩ := hp
  refine lv_if_ne (tgt := 9) S.1 S.2.1 d_D_kind_4 (by decide) (fun c_a => ?_) (fun c_a => ?_)
  · have c_a := pI_yes c_a
    obtain ⟨ch, hch, ech⟩ := isCh_nat c_a
    subst ech
    refine lv_aload_n S.1 S.2.1 d_D_kind_9 rfl (lv_at hl 0 rfl) ?_
    refine ur_get (k := 0) (v := .ref (ad 1)) S hK hP (by decide) xg_desk rfl (fun w h => hU w (in_D w h)) 0 (by decide) (hU _ t1_158) rfl d_D_kind_10 ?_
    refine lv_iload_n S.1 S.2.1 d_D_kind_13 rfl (lv_at hl 1 rfl) ?_
    refine lv_iload_n S.1 S.2.1 d_D_kind_14 rfl (lv_at hl 2 rfl) ?_
    refine ur_zast (k := 1) (f := (v 0 0)) (j := ch) (g' := xG ca ad (up3 v 0 0 ch x2, π)) S hK hP (uD _ hJ) hS (by decide) 1 xg_att rfl rfl hch (by decide) hz xs_att d_D_kind_15 (fun H locs hP hS => ?_)
    refine lv_iconst (v := 1) S.1 S.2.1 d_D_kind_16 (by decide) ?_
    exact uZret S hr hlk rfl ((up3 v 0 0 ch x2), π) hP hS (by rw [if_pos c_a]; exact ⟨by rw [nI_clamp (by omega)], rfl⟩) d_D_kind_17
  · have c_a := pI_no c_a
    refine lv_iconst (v := 0) S.1 S.2.1 d_D_kind_7 (by decide) ?_
    exact uZret S hr hlk rfl (v, π) hP hS (by rw [if_neg (fun z => c_a z)]; exact ⟨rfl, rfl⟩) d_D_kind_8

set_option maxRecDepth 100000 in
set_option maxHeartbeats 4000000 in
theorem c_D_set {l : Launch} {D : va_G} {ca : Nat → ClassId} {ad : Nat → Nat} (hJ : uJ 165 ad) (v : Nat → Nat → Nat → Int32) (π : Nat → Nat) (x1 x2 : Int32) : uMi l y_D_set b_D_set 3 (some .boolean) 1 22 D clsAll (tysAll ca) 165 ad (xG ca ad) (v, π) [.ref (ad 0), .int x1, .int x2] (fun r u => if isCh x1 ∧ isLv x2 then u = (vPut v 40 x1.toNatClampNeg x2, π) ∧ r = 1 else u = (v, π) ∧ r = 0) := by
  refine uStart (by decide) (Nat.le_of_ble_eq_true rfl) ?_
  intro p e s m below meth c ls S hr hlk hK hN hP hl
  have hU : ∀ w ∈ uWS, w ∈ (Cond.code y_D_set b_D_set 3 (some .boolean) :: uWS) := fun w h => List.mem_cons_of_mem _ h
  have hS : va_S (uA 165 ad s.heap.size) s.heap s.heap [] := va_S.rf
  have hl : lv_has ls 3 [(0, .ref (ad 0)), (1, .int x1), (2, .int x2)] := hl
  refine lv_iload_n S.1 S.2.1 d_D_set_0 rfl (lv_at hl 1 rfl) ?_
  refine uSi (n := 1) (As := [.int x1]) (rest := []) S hK hN hP hS (c_D_isChannel hJ v π x1) ⟨hU, t1_186, t1_184, t1_1, by decide +kernel, by decide, by decide⟩ t1_185 rfl hl.1 rfl (Nat.le_of_ble_eq_true rfl) d_D_set_1 ⟨Nat.le_of_ble_eq_true rfl, Nat.le_of_ble_eq_true rfl⟩ (fun r u H locs hp hP hS => ?_)
  obtain ⟨rfl, rfl⟩ := hp
  refine lv_if_eq (tgt := 14) S.1 S.2.1 d_D_set_4 (by decide) (fun c_a => ?_) (fun c_a => ?_)
  · have c_a := pI_no c_a
    refine lv_iconst (v := 0) S.1 S.2.1 d_D_set_14 (by decide) ?_
    exact uZret S hr hlk rfl (v, π) hP hS (by rw [if_neg (fun z => c_a z.1)]; exact ⟨rfl, rfl⟩) d_D_set_15
  · have c_a := pI_yes c_a
    refine lv_iload_n S.1 S.2.1 d_D_set_7 rfl (lv_at hl 2 rfl) ?_
    refine uSi (n := 1) (As := [.int x2]) (rest := []) S hK hN hP hS (c_D_isLevel hJ v π x2) ⟨hU, t1_193, t1_191, t1_1, by decide +kernel, by decide, by decide⟩ t1_192 rfl hl.1 rfl (Nat.le_of_ble_eq_true rfl) d_D_set_8 ⟨Nat.le_of_ble_eq_true rfl, Nat.le_of_ble_eq_true rfl⟩ (fun r u H locs hp hP hS => ?_)
    obtain ⟨rfl, rfl⟩ := hp
    refine lv_if_ne (tgt := 16) S.1 S.2.1 d_D_set_11 (by decide) (fun c_b => ?_) (fun c_b => ?_)
    · have c_b := pI_yes c_b
      obtain ⟨ch, hch, ech⟩ := isCh_nat c_a
      subst ech
      refine lv_aload_n S.1 S.2.1 d_D_set_16 rfl (lv_at hl 0 rfl) ?_
      refine ur_get (k := 0) (v := .ref (ad 87)) S hK hP (by decide) xg_desk rfl (fun w h => hU w (in_D w h)) 1 (by decide) (hU _ t1_159) rfl d_D_set_17 ?_
      refine lv_iload_n S.1 S.2.1 d_D_set_20 rfl (lv_at hl 1 rfl) ?_
      refine lv_iload_n S.1 S.2.1 d_D_set_21 rfl (lv_at hl 2 rfl) ?_
      refine uVv (n := 2) (b := (7 + 2 * 40)) (As := [.int (nI ch), .int x2]) (rest := []) S hK hN hP hS (c_V_put hJ v π 40 ch (by decide) hch x2) ⟨hU, t1_197, t1_194, t1_2, by decide +kernel, by decide, by decide⟩ t1_195 t1_196 (kb_V (by decide)) (xg_row (by decide)) rfl rfl rfl hl.1 rfl (Nat.le_of_ble_eq_true rfl) d_D_set_22 ⟨Nat.le_of_ble_eq_true rfl, Nat.le_of_ble_eq_true rfl⟩ (fun u H locs hp hP hS => ?_)
      obtain rfl := hp
      refine lv_iconst (v := 1) S.1 S.2.1 d_D_set_25 (by decide) ?_
      exact uZret S hr hlk rfl ((vPut v 40 ch x2), π) hP hS (by rw [if_pos ⟨c_a, c_b⟩]; exact ⟨by rw [nI_clamp (by omega)], rfl⟩) d_D_set_26
    · have c_b := pI_no c_b
      refine lv_iconst (v := 0) S.1 S.2.1 d_D_set_14 (by decide) ?_
      exact uZret S hr hlk rfl (v, π) hP hS (by rw [if_neg (fun z => c_b z.2)]; exact ⟨rfl, rfl⟩) d_D_set_15

set_option maxRecDepth 100000 in
set_option maxHeartbeats 4000000 in
theorem c_D_use {l : Launch} {D : va_G} {ca : Nat → ClassId} {ad : Nat → Nat} (hJ : uJ 165 ad) (v : Nat → Nat → Nat → Int32) (π : Nat → Nat) (x1 x2 : Int32) : uMi l y_D_use b_D_use 3 (some .boolean) 1 22 D clsAll (tysAll ca) 165 ad (xG ca ad) (v, π) [.ref (ad 0), .int x1, .int x2] (fun r u => if isCh x1 ∧ isPal x2 then u = (vPut v 40 x1.toNatClampNeg (256 + x2), π) ∧ r = 1 else u = (v, π) ∧ r = 0) := by
  refine uStart (by decide) (Nat.le_of_ble_eq_true rfl) ?_
  intro p e s m below meth c ls S hr hlk hK hN hP hl
  have hU : ∀ w ∈ uWS, w ∈ (Cond.code y_D_use b_D_use 3 (some .boolean) :: uWS) := fun w h => List.mem_cons_of_mem _ h
  have hS : va_S (uA 165 ad s.heap.size) s.heap s.heap [] := va_S.rf
  have hl : lv_has ls 3 [(0, .ref (ad 0)), (1, .int x1), (2, .int x2)] := hl
  refine lv_iload_n S.1 S.2.1 d_D_use_0 rfl (lv_at hl 1 rfl) ?_
  refine uSi (n := 1) (As := [.int x1]) (rest := []) S hK hN hP hS (c_D_isChannel hJ v π x1) ⟨hU, t1_186, t1_184, t1_1, by decide +kernel, by decide, by decide⟩ t1_185 rfl hl.1 rfl (Nat.le_of_ble_eq_true rfl) d_D_use_1 ⟨Nat.le_of_ble_eq_true rfl, Nat.le_of_ble_eq_true rfl⟩ (fun r u H locs hp hP hS => ?_)
  obtain ⟨rfl, rfl⟩ := hp
  refine lv_if_eq (tgt := 14) S.1 S.2.1 d_D_use_4 (by decide) (fun c_a => ?_) (fun c_a => ?_)
  · have c_a := pI_no c_a
    refine lv_iconst (v := 0) S.1 S.2.1 d_D_use_14 (by decide) ?_
    exact uZret S hr hlk rfl (v, π) hP hS (by rw [if_neg (fun z => c_a z.1)]; exact ⟨rfl, rfl⟩) d_D_use_15
  · have c_a := pI_yes c_a
    refine lv_iload_n S.1 S.2.1 d_D_use_7 rfl (lv_at hl 2 rfl) ?_
    refine uSi (n := 1) (As := [.int x2]) (rest := []) S hK hN hP hS (c_D_isPalette hJ v π x2) ⟨hU, t1_204, t1_202, t1_1, by decide +kernel, by decide, by decide⟩ t1_203 rfl hl.1 rfl (Nat.le_of_ble_eq_true rfl) d_D_use_8 ⟨Nat.le_of_ble_eq_true rfl, Nat.le_of_ble_eq_true rfl⟩ (fun r u H locs hp hP hS => ?_)
    obtain ⟨rfl, rfl⟩ := hp
    refine lv_if_ne (tgt := 16) S.1 S.2.1 d_D_use_11 (by decide) (fun c_b => ?_) (fun c_b => ?_)
    · have c_b := pI_yes c_b
      obtain ⟨ch, hch, ech⟩ := isCh_nat c_a
      subst ech
      refine lv_aload_n S.1 S.2.1 d_D_use_16 rfl (lv_at hl 0 rfl) ?_
      refine ur_get (k := 0) (v := .ref (ad 87)) S hK hP (by decide) xg_desk rfl (fun w h => hU w (in_D w h)) 1 (by decide) (hU _ t1_159) rfl d_D_use_17 ?_
      refine lv_iload_n S.1 S.2.1 d_D_use_20 rfl (lv_at hl 1 rfl) ?_
      refine lv_sipush (v := 256) S.1 S.2.1 d_D_use_21 (by decide) ?_
      refine lv_iload_n S.1 S.2.1 d_D_use_24 rfl (lv_at hl 2 rfl) ?_
      refine lv_iadd S.1 S.2.1 d_D_use_25 ?_
      refine uVv (n := 2) (b := (7 + 2 * 40)) (As := [.int (nI ch), .int (256 + x2)]) (rest := []) S hK hN hP hS (c_V_put hJ v π 40 ch (by decide) hch (256 + x2)) ⟨hU, t1_197, t1_194, t1_2, by decide +kernel, by decide, by decide⟩ t1_195 t1_196 (kb_V (by decide)) (xg_row (by decide)) rfl rfl rfl hl.1 rfl (Nat.le_of_ble_eq_true rfl) d_D_use_26 ⟨Nat.le_of_ble_eq_true rfl, Nat.le_of_ble_eq_true rfl⟩ (fun u H locs hp hP hS => ?_)
      obtain rfl := hp
      refine lv_iconst (v := 1) S.1 S.2.1 d_D_use_29 (by decide) ?_
      exact uZret S hr hlk rfl ((vPut v 40 ch (256 + x2)), π) hP hS (by rw [if_pos ⟨c_a, c_b⟩]; exact ⟨by rw [nI_clamp (by omega)], rfl⟩) d_D_use_30
    · have c_b := pI_no c_b
      refine lv_iconst (v := 0) S.1 S.2.1 d_D_use_14 (by decide) ?_
      exact uZret S hr hlk rfl (v, π) hP hS (by rw [if_neg (fun z => c_b z.2)]; exact ⟨rfl, rfl⟩) d_D_use_15

set_option maxRecDepth 100000 in
set_option maxHeartbeats 4000000 in
theorem c_D_master {l : Launch} {D : va_G} {ca : Nat → ClassId} {ad : Nat → Nat} (hJ : uJ 165 ad) (v : Nat → Nat → Nat → Int32) (π : Nat → Nat) (x1 x2 : Int32) : uMi l y_D_master b_D_master 3 (some .boolean) 1 20 D clsAll (tysAll ca) 165 ad (xG ca ad) (v, π) [.ref (ad 0), .int x1, .int x2] (fun r u => if isPb x1 ∧ isLv x2 then u = (up3 v 26 x1.toNatClampNeg 0 x2, π) ∧ r = 1 else u = (v, π) ∧ r = 0) := by
  refine uStart (by decide) (Nat.le_of_ble_eq_true rfl) ?_
  intro p e s m below meth c ls S hr hlk hK hN hP hl
  have hU : ∀ w ∈ uWS, w ∈ (Cond.code y_D_master b_D_master 3 (some .boolean) :: uWS) := fun w h => List.mem_cons_of_mem _ h
  have hS : va_S (uA 165 ad s.heap.size) s.heap s.heap [] := va_S.rf
  have hl : lv_has ls 3 [(0, .ref (ad 0)), (1, .int x1), (2, .int x2)] := hl
  refine lv_iload_n S.1 S.2.1 d_D_master_0 rfl (lv_at hl 1 rfl) ?_
  refine uSi (n := 1) (As := [.int x1]) (rest := []) S hK hN hP hS (c_D_isPlayback hJ v π x1) ⟨hU, t2_22, t2_20, t1_1, by decide +kernel, by decide, by decide⟩ t2_21 rfl hl.1 rfl (Nat.le_of_ble_eq_true rfl) d_D_master_1 ⟨Nat.le_of_ble_eq_true rfl, Nat.le_of_ble_eq_true rfl⟩ (fun r u H locs hp hP hS => ?_)
  obtain ⟨rfl, rfl⟩ := hp
  refine lv_if_eq (tgt := 14) S.1 S.2.1 d_D_master_4 (by decide) (fun c_a => ?_) (fun c_a => ?_)
  · have c_a := pI_no c_a
    refine lv_iconst (v := 0) S.1 S.2.1 d_D_master_14 (by decide) ?_
    exact uZret S hr hlk rfl (v, π) hP hS (by rw [if_neg (fun z => c_a z.1)]; exact ⟨rfl, rfl⟩) d_D_master_15
  · have c_a := pI_yes c_a
    refine lv_iload_n S.1 S.2.1 d_D_master_7 rfl (lv_at hl 2 rfl) ?_
    refine uSi (n := 1) (As := [.int x2]) (rest := []) S hK hN hP hS (c_D_isLevel hJ v π x2) ⟨hU, t1_193, t1_191, t1_1, by decide +kernel, by decide, by decide⟩ t1_192 rfl hl.1 rfl (Nat.le_of_ble_eq_true rfl) d_D_master_8 ⟨Nat.le_of_ble_eq_true rfl, Nat.le_of_ble_eq_true rfl⟩ (fun r u H locs hp hP hS => ?_)
    obtain ⟨rfl, rfl⟩ := hp
    refine lv_if_ne (tgt := 16) S.1 S.2.1 d_D_master_11 (by decide) (fun c_b => ?_) (fun c_b => ?_)
    · have c_b := pI_yes c_b
      obtain ⟨j, hj, ej⟩ := isPb_nat c_a
      subst ej
      refine lv_aload_n S.1 S.2.1 d_D_master_16 rfl (lv_at hl 0 rfl) ?_
      refine ur_get (k := 0) (v := .ref (ad 6)) S hK hP (by decide) xg_desk rfl (fun w h => hU w (in_D w h)) 4 (by decide) (hU _ t1_162) rfl d_D_master_17 ?_
      refine lv_iload_n S.1 S.2.1 d_D_master_20 rfl (lv_at hl 1 rfl) ?_
      refine ur_aald (k := 6) (q := ad (129 + 6 * j)) (j := j) S hK hP (by decide) 3 xg_plys rfl rfl hj (by decide) rfl d_D_master_21 ?_
      refine lv_iload_n S.1 S.2.1 d_D_master_22 rfl (lv_at hl 2 rfl) ?_
      refine ur_putN (k := (129 + 6 * j)) (v := .int x2) (g' := xG ca ad (up3 v 26 j 0 x2, π)) S hK hP (uD _ hJ) hS (kb_Y hj) (xg_ply hj) rfl (fun w h => hU w (in_Y w h)) ty_Y tyk_Y nm_Y 6 (by decide) (hN _ t1_130) rfl rfl rfl (Nat.le_of_ble_eq_true rfl) (xs_pmaster hj) d_D_master_23 (fun H locs hP hS => ?_)
      refine lv_iconst (v := 1) S.1 S.2.1 d_D_master_26 (by decide) ?_
      exact uZret S hr hlk rfl ((up3 v 26 j 0 x2), π) hP hS (by rw [if_pos ⟨c_a, c_b⟩]; exact ⟨by rw [nI_clamp (by omega)], rfl⟩) d_D_master_27
    · have c_b := pI_no c_b
      refine lv_iconst (v := 0) S.1 S.2.1 d_D_master_14 (by decide) ?_
      exact uZret S hr hlk rfl (v, π) hP hS (by rw [if_neg (fun z => c_b z.2)]; exact ⟨rfl, rfl⟩) d_D_master_15

set_option maxRecDepth 100000 in
set_option maxHeartbeats 4000000 in
theorem c_D_assign {l : Launch} {D : va_G} {ca : Nat → ClassId} {ad : Nat → Nat} (hJ : uJ 165 ad) (v : Nat → Nat → Nat → Int32) (π : Nat → Nat) (x1 x2 : Int32) : uMi l y_D_assign b_D_assign 4 (some .boolean) 1 20 D clsAll (tysAll ca) 165 ad (xG ca ad) (v, π) [.ref (ad 0), .int x1, .int x2] (fun r u => if isPb x1 ∧ isLst x2 ∧ v 28 x1.toNatClampNeg 0 = -1 then u = (up3 v 25 x1.toNatClampNeg 0 x2, π) ∧ r = 1 else u = (v, π) ∧ r = 0) := by
  refine uStart (by decide) (Nat.le_of_ble_eq_true rfl) ?_
  intro p e s m below meth c ls S hr hlk hK hN hP hl
  have hU : ∀ w ∈ uWS, w ∈ (Cond.code y_D_assign b_D_assign 4 (some .boolean) :: uWS) := fun w h => List.mem_cons_of_mem _ h
  have hS : va_S (uA 165 ad s.heap.size) s.heap s.heap [] := va_S.rf
  have hl : lv_has ls 4 [(0, .ref (ad 0)), (1, .int x1), (2, .int x2)] := hl
  refine lv_iload_n S.1 S.2.1 d_D_assign_0 rfl (lv_at hl 1 rfl) ?_
  refine uSi (n := 1) (As := [.int x1]) (rest := []) S hK hN hP hS (c_D_isPlayback hJ v π x1) ⟨hU, t2_22, t2_20, t1_1, by decide +kernel, by decide, by decide⟩ t2_21 rfl hl.1 rfl (Nat.le_of_ble_eq_true rfl) d_D_assign_1 ⟨Nat.le_of_ble_eq_true rfl, Nat.le_of_ble_eq_true rfl⟩ (fun r u H locs hp hP hS => ?_)
  obtain ⟨rfl, rfl⟩ := hp
  refine lv_if_eq (tgt := 14) S.1 S.2.1 d_D_assign_4 (by decide) (fun c_a => ?_) (fun c_a => ?_)
  · have c_a := pI_no c_a
    refine lv_iconst (v := 0) S.1 S.2.1 d_D_assign_14 (by decide) ?_
    exact uZret S hr hlk rfl (v, π) hP hS (by rw [if_neg (fun z => c_a z.1)]; exact ⟨rfl, rfl⟩) d_D_assign_15
  · have c_a := pI_yes c_a
    refine lv_iload_n S.1 S.2.1 d_D_assign_7 rfl (lv_at hl 2 rfl) ?_
    refine uSi (n := 1) (As := [.int x2]) (rest := []) S hK hN hP hS (c_D_isList hJ v π x2) ⟨hU, t2_25, t2_23, t1_1, by decide +kernel, by decide, by decide⟩ t2_24 rfl hl.1 rfl (Nat.le_of_ble_eq_true rfl) d_D_assign_8 ⟨Nat.le_of_ble_eq_true rfl, Nat.le_of_ble_eq_true rfl⟩ (fun r u H locs hp hP hS => ?_)
    obtain ⟨rfl, rfl⟩ := hp
    refine lv_if_ne (tgt := 16) S.1 S.2.1 d_D_assign_11 (by decide) (fun c_b => ?_) (fun c_b => ?_)
    · have c_b := pI_yes c_b
      obtain ⟨j, hj, ej⟩ := isPb_nat c_a
      subst ej
      refine lv_aload_n S.1 S.2.1 d_D_assign_16 rfl (lv_at hl 0 rfl) ?_
      refine ur_get (k := 0) (v := .ref (ad 6)) S hK hP (by decide) xg_desk rfl (fun w h => hU w (in_D w h)) 4 (by decide) (hU _ t1_162) rfl d_D_assign_17 ?_
      refine lv_iload_n S.1 S.2.1 d_D_assign_20 rfl (lv_at hl 1 rfl) ?_
      refine ur_aald (k := 6) (q := ad (129 + 6 * j)) (j := j) S hK hP (by decide) 3 xg_plys rfl rfl hj (by decide) rfl d_D_assign_21 ?_
      refine lv_astore_n (lv' := [(3, .ref (ad (129 + 6 * j))), (0, .ref (ad 0)), (1, .int (nI j)), (2, .int x2)]) S.1 S.2.1 d_D_assign_22 rfl hl (by decide) rfl (fun ls hl => ?_)
      refine lv_aload_n S.1 S.2.1 d_D_assign_23 rfl (lv_at hl 0 rfl) ?_
      refine ur_getN (k := (129 + 6 * j)) (v := .int (v 28 j 0)) S hK hP (kb_Y hj) (xg_ply hj) rfl (fun w h => hU w (in_Y w h)) 8 (by decide) (hN _ t1_134) rfl d_D_assign_24 ?_
      refine lv_iconst (v := (-1)) S.1 S.2.1 d_D_assign_27 (by decide) ?_
      refine lv_icmp_eq (tgt := 33) S.1 S.2.1 d_D_assign_28 (by decide) (fun c_s => ?_) (fun c_s => ?_)
      · refine lv_aload_n S.1 S.2.1 d_D_assign_33 rfl (lv_at hl 0 rfl) ?_
        refine lv_iload_n S.1 S.2.1 d_D_assign_34 rfl (lv_at hl 3 rfl) ?_
        refine ur_putN (k := (129 + 6 * j)) (v := .int x2) (g' := xG ca ad (up3 v 25 j 0 x2, π)) S hK hP (uD _ hJ) hS (kb_Y hj) (xg_ply hj) rfl (fun w h => hU w (in_Y w h)) ty_Y tyk_Y nm_Y 5 (by decide) (hN _ t1_128) rfl rfl rfl (Nat.le_of_ble_eq_true rfl) (xs_plist hj) d_D_assign_35 (fun H locs hP hS => ?_)
        refine lv_iconst (v := 1) S.1 S.2.1 d_D_assign_38 (by decide) ?_
        exact uZret S hr hlk rfl ((up3 v 25 j 0 x2), π) hP hS (by rw [nI_clamp (by omega), if_pos ⟨c_a, c_b, c_s⟩]; exact ⟨rfl, rfl⟩) d_D_assign_39
      · refine lv_iconst (v := 0) S.1 S.2.1 d_D_assign_31 (by decide) ?_
        exact uZret S hr hlk rfl (v, π) hP hS (by rw [nI_clamp (by omega), if_neg (fun z => c_s z.2.2)]; exact ⟨rfl, rfl⟩) d_D_assign_32
    · have c_b := pI_no c_b
      refine lv_iconst (v := 0) S.1 S.2.1 d_D_assign_14 (by decide) ?_
      exact uZret S hr hlk rfl (v, π) hP hS (by rw [if_neg (fun z => c_b z.2.1)]; exact ⟨rfl, rfl⟩) d_D_assign_15

set_option maxRecDepth 100000 in
set_option maxHeartbeats 4000000 in
theorem c_D_release {l : Launch} {D : va_G} {ca : Nat → ClassId} {ad : Nat → Nat} (hJ : uJ 165 ad) (v : Nat → Nat → Nat → Int32) (π : Nat → Nat) (x1 : Int32) : uMi l y_D_release b_D_release 3 (some .int) 2 43 D clsAll (tysAll ca) 165 ad (xG ca ad) (v, π) [.ref (ad 0), .int x1] (fun r u => if x1 = -1 then u = (vDropAll v 40, π) ∧ r = v 16 40 0 - vDropAll v 40 16 40 0 else if isCh x1 then u = (vDrop v 40 x1.toNatClampNeg, π) ∧ r = v 16 40 0 - vDrop v 40 x1.toNatClampNeg 16 40 0 else u = (v, π) ∧ r = v 16 40 0 - v 16 40 0) := by
  refine uStart (by decide) (Nat.le_of_ble_eq_true rfl) ?_
  intro p e s m below meth c ls S hr hlk hK hN hP hl
  have hU : ∀ w ∈ uWS, w ∈ (Cond.code y_D_release b_D_release 3 (some .int) :: uWS) := fun w h => List.mem_cons_of_mem _ h
  have hS : va_S (uA 165 ad s.heap.size) s.heap s.heap [] := va_S.rf
  have hl : lv_has ls 3 [(0, .ref (ad 0)), (1, .int x1)] := hl
  refine lv_aload_n S.1 S.2.1 d_D_release_0 rfl (lv_at hl 0 rfl) ?_
  refine ur_get (k := 0) (v := .ref (ad 87)) S hK hP (by decide) xg_desk rfl (fun w h => hU w (in_D w h)) 1 (by decide) (hU _ t1_159) rfl d_D_release_1 ?_
  refine ur_getN (k := (7 + 2 * 40)) (v := .int (v 16 40 0)) S hK hP (kb_V (by decide)) (xg_row (by decide)) rfl (fun w h => hU w (in_V w h)) 1 (by decide) (hN _ t1_39) rfl d_D_release_4 ?_
  refine lv_istore_n (lv' := [(2, .int (v 16 40 0)), (0, .ref (ad 0)), (1, .int x1)]) S.1 S.2.1 d_D_release_7 rfl hl (by decide) rfl (fun ls hl => ?_)
  refine lv_iload_n S.1 S.2.1 d_D_release_8 rfl (lv_at hl 2 rfl) ?_
  refine lv_iconst (v := (-1)) S.1 S.2.1 d_D_release_9 (by decide) ?_
  refine lv_icmp_ne (tgt := 23) S.1 S.2.1 d_D_release_10 (by decide) (fun c_n => ?_) (fun c_n => ?_)
  · refine lv_iload_n S.1 S.2.1 d_D_release_23 rfl (lv_at hl 2 rfl) ?_
    refine uSi (n := 1) (As := [.int x1]) (rest := []) S hK hN hP hS (c_D_isChannel hJ v π x1) ⟨hU, t1_186, t1_184, t1_1, by decide +kernel, by decide, by decide⟩ t1_185 rfl hl.1 rfl (Nat.le_of_ble_eq_true rfl) d_D_release_24 ⟨Nat.le_of_ble_eq_true rfl, Nat.le_of_ble_eq_true rfl⟩ (fun r u H locs hp hP hS => ?_)
    obtain ⟨rfl, rfl⟩ := hp
    refine lv_if_eq (tgt := 38) S.1 S.2.1 d_D_release_27 (by decide) (fun c_a => ?_) (fun c_a => ?_)
    · have c_a := pI_no c_a
      refine lv_iload_n S.1 S.2.1 d_D_release_38 rfl (lv_at hl 0 rfl) ?_
      refine lv_aload_n S.1 S.2.1 d_D_release_39 rfl (lv_at hl 1 rfl) ?_
      refine ur_get (k := 0) (v := .ref (ad 87)) S hK hP (by decide) xg_desk rfl (fun w h => hU w (in_D w h)) 1 (by decide) (hU _ t1_159) rfl d_D_release_40 ?_
      refine ur_getN (k := (7 + 2 * 40)) (v := .int (v 16 40 0)) S hK hP (kb_V (by decide)) (xg_row (by decide)) rfl (fun w h => hU w (in_V w h)) 1 (by decide) (hN _ t1_39) rfl d_D_release_43 ?_
      refine lv_isub S.1 S.2.1 d_D_release_46 ?_
      exact uIret S hr hlk (v, π) hP hS (by rw [if_neg c_n, if_neg c_a]; exact ⟨rfl, rfl⟩) d_D_release_47
    · have c_a := pI_yes c_a
      obtain ⟨ch, hch, ech⟩ := isCh_nat c_a
      subst ech
      refine lv_aload_n S.1 S.2.1 d_D_release_30 rfl (lv_at hl 1 rfl) ?_
      refine ur_get (k := 0) (v := .ref (ad 87)) S hK hP (by decide) xg_desk rfl (fun w h => hU w (in_D w h)) 1 (by decide) (hU _ t1_159) rfl d_D_release_31 ?_
      refine lv_iload_n S.1 S.2.1 d_D_release_34 rfl (lv_at hl 2 rfl) ?_
      refine uVv (n := 1) (b := (7 + 2 * 40)) (As := [.int (nI ch)]) (rest := []) S hK hN hP hS (c_V_drop hJ v π 40 ch (by decide) hch) ⟨hU, t1_216, t1_213, t1_2, by decide +kernel, by decide, by decide⟩ t1_214 t1_215 (kb_V (by decide)) (xg_row (by decide)) rfl rfl rfl hl.1 rfl (Nat.le_of_ble_eq_true rfl) d_D_release_35 ⟨Nat.le_of_ble_eq_true rfl, Nat.le_of_ble_eq_true rfl⟩ (fun u H locs hp hP hS => ?_)
      obtain rfl := hp
      refine lv_iload_n S.1 S.2.1 d_D_release_38 rfl (lv_at hl 0 rfl) ?_
      refine lv_aload_n S.1 S.2.1 d_D_release_39 rfl (lv_at hl 1 rfl) ?_
      refine ur_get (k := 0) (v := .ref (ad 87)) S hK hP (by decide) xg_desk rfl (fun w h => hU w (in_D w h)) 1 (by decide) (hU _ t1_159) rfl d_D_release_40 ?_
      refine ur_getN (k := (7 + 2 * 40)) (v := .int ((vDrop v 40 ch) 16 40 0)) S hK hP (kb_V (by decide)) (xg_row (by decide)) rfl (fun w h => hU w (in_V w h)) 1 (by decide) (hN _ t1_39) rfl d_D_release_43 ?_
      refine lv_isub S.1 S.2.1 d_D_release_46 ?_
      exact uIret S hr hlk ((vDrop v 40 ch), π) hP hS (by rw [if_neg c_n, if_pos c_a, nI_clamp (by omega)]; exact ⟨rfl, rfl⟩) d_D_release_47
  · refine lv_aload_n S.1 S.2.1 d_D_release_13 rfl (lv_at hl 1 rfl) ?_
    refine ur_get (k := 0) (v := .ref (ad 87)) S hK hP (by decide) xg_desk rfl (fun w h => hU w (in_D w h)) 1 (by decide) (hU _ t1_159) rfl d_D_release_14 ?_
    refine uVv (n := 0) (b := (7 + 2 * 40)) (As := []) (rest := []) S hK hN hP hS (c_V_dropAll hJ v π 40 (by decide)) ⟨hU, t1_212, t1_209, t1_2, by decide +kernel, by decide, by decide⟩ t1_210 t1_211 (kb_V (by decide)) (xg_row (by decide)) rfl rfl rfl hl.1 rfl (Nat.le_of_ble_eq_true rfl) d_D_release_17 ⟨Nat.le_of_ble_eq_true rfl, Nat.le_of_ble_eq_true rfl⟩ (fun u H locs hp hP hS => ?_)
    obtain rfl := hp
    refine lv_goto (tgt := 38) S.1 S.2.1 d_D_release_20 (by decide) ?_
    refine lv_iload_n S.1 S.2.1 d_D_release_38 rfl (lv_at hl 0 rfl) ?_
    refine lv_aload_n S.1 S.2.1 d_D_release_39 rfl (lv_at hl 1 rfl) ?_
    refine ur_get (k := 0) (v := .ref (ad 87)) S hK hP (by decide) xg_desk rfl (fun w h => hU w (in_D w h)) 1 (by decide) (hU _ t1_159) rfl d_D_release_40 ?_
    refine ur_getN (k := (7 + 2 * 40)) (v := .int ((vDropAll v 40) 16 40 0)) S hK hP (kb_V (by decide)) (xg_row (by decide)) rfl (fun w h => hU w (in_V w h)) 1 (by decide) (hN _ t1_39) rfl d_D_release_43 ?_
    refine lv_isub S.1 S.2.1 d_D_release_46 ?_
    exact uIret S hr hlk ((vDropAll v 40), π) hP hS (by rw [if_pos c_n]; exact ⟨rfl, rfl⟩) d_D_release_47

set_option maxRecDepth 100000 in
set_option maxHeartbeats 4000000 in
theorem c_D_palette {l : Launch} {D : va_G} {ca : Nat → ClassId} {ad : Nat → Nat} (hJ : uJ 165 ad) (v : Nat → Nat → Nat → Int32) (π : Nat → Nat) (x1 x2 x3 : Int32) : uMi l y_D_palette b_D_palette 4 (some .boolean) 1 23 D clsAll (tysAll ca) 165 ad (xG ca ad) (v, π) [.ref (ad 0), .int x1, .int x2, .int x3] (fun r u => if isPal x1 ∧ isCh x2 ∧ (x3 = -1 ∨ isLv x3) then u = (up3 v 3 0 (x1.toNatClampNeg * 64 + x2.toNatClampNeg) x3, π) ∧ r = 1 else u = (v, π) ∧ r = 0) := by
  refine uStart (by decide) (Nat.le_of_ble_eq_true rfl) ?_
  intro p e s m below meth c ls S hr hlk hK hN hP hl
  have hU : ∀ w ∈ uWS, w ∈ (Cond.code y_D_palette b_D_palette 4 (some .boolean) :: uWS) := fun w h => List.mem_cons_of_mem _ h
  have hS : va_S (uA 165 ad s.heap.size) s.heap s.heap [] := va_S.rf
  have hl : lv_has ls 4 [(0, .ref (ad 0)), (1, .int x1), (2, .int x2), (3, .int x3)] := hl
  refine lv_iload_n S.1 S.2.1 d_D_palette_0 rfl (lv_at hl 1 rfl) ?_
  refine uSi (n := 1) (As := [.int x1]) (rest := []) S hK hN hP hS (c_D_isPalette hJ v π x1) ⟨hU, t1_204, t1_202, t1_1, by decide +kernel, by decide, by decide⟩ t1_203 rfl hl.1 rfl (Nat.le_of_ble_eq_true rfl) d_D_palette_1 ⟨Nat.le_of_ble_eq_true rfl, Nat.le_of_ble_eq_true rfl⟩ (fun r u H locs hp hP hS => ?_)
  obtain ⟨rfl, rfl⟩ := hp
  refine lv_if_eq (tgt := 14) S.1 S.2.1 d_D_palette_4 (by decide) (fun c_a => ?_) (fun c_a => ?_)
  · have c_a := pI_no c_a
    refine lv_iconst (v := 0) S.1 S.2.1 d_D_palette_14 (by decide) ?_
    exact uZret S hr hlk rfl (v, π) hP hS (by rw [if_neg (fun z => c_a z.1)]; exact ⟨rfl, rfl⟩) d_D_palette_15
  · have c_a := pI_yes c_a
    refine lv_iload_n S.1 S.2.1 d_D_palette_7 rfl (lv_at hl 2 rfl) ?_
    refine uSi (n := 1) (As := [.int x2]) (rest := []) S hK hN hP hS (c_D_isChannel hJ v π x2) ⟨hU, t1_186, t1_184, t1_1, by decide +kernel, by decide, by decide⟩ t1_185 rfl hl.1 rfl (Nat.le_of_ble_eq_true rfl) d_D_palette_8 ⟨Nat.le_of_ble_eq_true rfl, Nat.le_of_ble_eq_true rfl⟩ (fun r u H locs hp hP hS => ?_)
    obtain ⟨rfl, rfl⟩ := hp
    refine lv_if_ne (tgt := 16) S.1 S.2.1 d_D_palette_11 (by decide) (fun c_b => ?_) (fun c_b => ?_)
    · have c_b := pI_yes c_b
      obtain ⟨q, hq, eq⟩ := isPal_nat c_a
      subst eq
      obtain ⟨ch, hch, ech⟩ := isCh_nat c_b
      subst ech
      refine lv_iload_n S.1 S.2.1 d_D_palette_16 rfl (lv_at hl 3 rfl) ?_
      refine lv_iconst (v := (-1)) S.1 S.2.1 d_D_palette_17 (by decide) ?_
      refine lv_icmp_eq (tgt := 30) S.1 S.2.1 d_D_palette_18 (by decide) (fun c_n => ?_) (fun c_n => ?_)
      · refine lv_aload_n S.1 S.2.1 d_D_palette_30 rfl (lv_at hl 0 rfl) ?_
        refine ur_get (k := 0) (v := .ref (ad 2)) S hK hP (by decide) xg_desk rfl (fun w h => hU w (in_D w h)) 2 (by decide) (hU _ t1_160) rfl d_D_palette_31 ?_
        refine lv_iload_n S.1 S.2.1 d_D_palette_34 rfl (lv_at hl 1 rfl) ?_
        refine lv_iload_n S.1 S.2.1 d_D_palette_35 rfl (lv_at hl 2 rfl) ?_
        refine lv_iload_n S.1 S.2.1 d_D_palette_36 rfl (lv_at hl 3 rfl) ?_
        refine uVv (n := 3) (b := 2) (As := [.int (nI q), .int (nI ch), .int x3]) (rest := []) S hK hN hP hS (c_P_store hJ v π q ch hq hch x3) ⟨hU, t1_224, t1_221, t1_4, by decide +kernel, by decide, by decide⟩ t1_222 t1_223 (by decide) xg_pal rfl rfl rfl hl.1 rfl (Nat.le_of_ble_eq_true rfl) d_D_palette_37 ⟨Nat.le_of_ble_eq_true rfl, Nat.le_of_ble_eq_true rfl⟩ (fun u H locs hp hP hS => ?_)
        obtain rfl := hp
        refine lv_iconst (v := 1) S.1 S.2.1 d_D_palette_40 (by decide) ?_
        exact uZret S hr hlk rfl ((up3 v 3 0 (q * 64 + ch) x3), π) hP hS (by rw [if_pos ⟨c_a, c_b, Or.inl c_n⟩, nI_clamp (by omega), nI_clamp (by omega)]; exact ⟨rfl, rfl⟩) d_D_palette_41
      · refine lv_iload_n S.1 S.2.1 d_D_palette_21 rfl (lv_at hl 3 rfl) ?_
        refine uSi (n := 1) (As := [.int x3]) (rest := []) S hK hN hP hS (c_D_isLevel hJ v π x3) ⟨hU, t1_193, t1_191, t1_1, by decide +kernel, by decide, by decide⟩ t1_192 rfl hl.1 rfl (Nat.le_of_ble_eq_true rfl) d_D_palette_22 ⟨Nat.le_of_ble_eq_true rfl, Nat.le_of_ble_eq_true rfl⟩ (fun r u H locs hp hP hS => ?_)
        obtain ⟨rfl, rfl⟩ := hp
        refine lv_if_ne (tgt := 30) S.1 S.2.1 d_D_palette_25 (by decide) (fun c_l => ?_) (fun c_l => ?_)
        · have c_l := pI_yes c_l
          refine lv_aload_n S.1 S.2.1 d_D_palette_30 rfl (lv_at hl 0 rfl) ?_
          refine ur_get (k := 0) (v := .ref (ad 2)) S hK hP (by decide) xg_desk rfl (fun w h => hU w (in_D w h)) 2 (by decide) (hU _ t1_160) rfl d_D_palette_31 ?_
          refine lv_iload_n S.1 S.2.1 d_D_palette_34 rfl (lv_at hl 1 rfl) ?_
          refine lv_iload_n S.1 S.2.1 d_D_palette_35 rfl (lv_at hl 2 rfl) ?_
          refine lv_iload_n S.1 S.2.1 d_D_palette_36 rfl (lv_at hl 3 rfl) ?_
          refine uVv (n := 3) (b := 2) (As := [.int (nI q), .int (nI ch), .int x3]) (rest := []) S hK hN hP hS (c_P_store hJ v π q ch hq hch x3) ⟨hU, t1_224, t1_221, t1_4, by decide +kernel, by decide, by decide⟩ t1_222 t1_223 (by decide) xg_pal rfl rfl rfl hl.1 rfl (Nat.le_of_ble_eq_true rfl) d_D_palette_37 ⟨Nat.le_of_ble_eq_true rfl, Nat.le_of_ble_eq_true rfl⟩ (fun u H locs hp hP hS => ?_)
          obtain rfl := hp
          refine lv_iconst (v := 1) S.1 S.2.1 d_D_palette_40 (by decide) ?_
          exact uZret S hr hlk rfl ((up3 v 3 0 (q * 64 + ch) x3), π) hP hS (by rw [if_pos ⟨c_a, c_b, Or.inr c_l⟩, nI_clamp (by omega), nI_clamp (by omega)]; exact ⟨rfl, rfl⟩) d_D_palette_41
        · have c_l := pI_no c_l
          refine lv_iconst (v := 0) S.1 S.2.1 d_D_palette_28 (by decide) ?_
          exact uZret S hr hlk rfl (v, π) hP hS (by rw [if_neg (fun z => z.2.2.elim c_n c_l)]; exact ⟨rfl, rfl⟩) d_D_palette_29
    · have c_b := pI_no c_b
      refine lv_iconst (v := 0) S.1 S.2.1 d_D_palette_14 (by decide) ?_
      exact uZret S hr hlk rfl (v, π) hP hS (by rw [if_neg (fun z => c_b z.2.1)]; exact ⟨rfl, rfl⟩) d_D_palette_15

set_option maxRecDepth 100000 in
set_option maxHeartbeats 4000000 in
theorem c_D_times {l : Launch} {D : va_G} {ca : Nat → ClassId} {ad : Nat → Nat} (hJ : uJ 165 ad) (v : Nat → Nat → Nat → Int32) (π : Nat → Nat) (n : Nat) (hB : xBk v π n) (a b x3 x4 : Int32) : uMi l y_D_times b_D_times 7 (some .boolean) 3 68 D clsAll (tysAll ca) 165 ad (xG ca ad) (v, π) [.ref (ad 0), .int a, .int b, .int x3, .int x4] (fun r u => match fndO v π n a b with | none => u = (v, π) ∧ r = 0 | some q => if isTm x3 ∧ isTm x4 then u = (up3 (up3 v 12 (π q) 0 x3) 13 (π q) 0 x4, π) ∧ r = 1 else u = (v, π) ∧ r = 0) := by
  refine uStart (by decide) (Nat.le_of_ble_eq_true rfl) ?_
  intro p e s m below meth c ls S hr hlk hK hN hP hl
  have hU : ∀ w ∈ uWS, w ∈ (Cond.code y_D_times b_D_times 7 (some .boolean) :: uWS) := fun w h => List.mem_cons_of_mem _ h
  have hS : va_S (uA 165 ad s.heap.size) s.heap s.heap [] := va_S.rf
  have hl : lv_has ls 7 [(0, .ref (ad 0)), (1, .int a), (2, .int b), (3, .int x3), (4, .int x4)] := hl
  have hn40 : n ≤ 40 := hB.2.1
  refine lv_aload_n S.1 S.2.1 d_D_times_0 rfl (lv_at hl 0 rfl) ?_
  refine ur_get (k := 0) (v := .ref (ad 4)) S hK hP (by decide) xg_desk rfl (fun w h => hU w (in_D w h)) 3 (by decide) (hU _ t1_161) rfl d_D_times_1 ?_
  refine lv_iload_n S.1 S.2.1 d_D_times_4 rfl (lv_at hl 1 rfl) ?_
  refine lv_iload_n S.1 S.2.1 d_D_times_5 rfl (lv_at hl 2 rfl) ?_
  refine uVi (n := 2) (b := 4) (As := [.int a, .int b]) (rest := []) S hK hN hP hS (c_B_find hJ v π n hB a b) ⟨hU, t1_232, t1_229, t1_5, by decide +kernel, by decide, by decide⟩ t1_230 t1_231 (by decide) xg_book rfl rfl rfl hl.1 rfl (Nat.le_of_ble_eq_true rfl) d_D_times_6 ⟨Nat.le_of_ble_eq_true rfl, Nat.le_of_ble_eq_true rfl⟩ (fun r u H locs hp hP hS => ?_)
  obtain ⟨rfl, rfl⟩ := hp
  rcases hX_1 : fndO v π n a b with _ | p_2
  · refine lv_istore (lv' := [(5, .int (-1)), (0, .ref (ad 0)), (1, .int a), (2, .int b), (3, .int x3), (4, .int x4)]) S.1 S.2.1 d_D_times_9 hl (by decide) rfl (fun ls hl => ?_)
    refine lv_iload S.1 S.2.1 d_D_times_11 (lv_at hl 0 rfl) ?_
    refine lv_iconst (v := (-1)) S.1 S.2.1 d_D_times_13 (by decide) ?_
    refine lv_icmp_eq (tgt := 32) S.1 S.2.1 d_D_times_14 (by decide) (fun c_3 => ?_) (fun c_3 => ?_)
    · refine lv_iconst (v := 0) S.1 S.2.1 d_D_times_32 (by decide) ?_
      exact uZret S hr hlk rfl (v, π) hP hS (by (try rw [hX_1]); exact ⟨rfl, rfl⟩) d_D_times_33
    · exact absurd rfl c_3
  · have hp_2 : p_2 < n := fndO_lt _ hX_1
    refine lv_istore (lv' := [(5, .int (nI p_2)), (0, .ref (ad 0)), (1, .int a), (2, .int b), (3, .int x3), (4, .int x4)]) S.1 S.2.1 d_D_times_9 hl (by decide) rfl (fun ls hl => ?_)
    refine lv_iload S.1 S.2.1 d_D_times_11 (lv_at hl 0 rfl) ?_
    refine lv_iconst (v := (-1)) S.1 S.2.1 d_D_times_13 (by decide) ?_
    refine lv_icmp_eq (tgt := 32) S.1 S.2.1 d_D_times_14 (by decide) (fun c_4 => ?_) (fun c_4 => ?_)
    · exact absurd c_4 (nI_nm1 (by omega))
    · refine lv_iload_n S.1 S.2.1 d_D_times_17 rfl (lv_at hl 4 rfl) ?_
      refine uSi (n := 1) (As := [.int x3]) (rest := []) S hK hN hP hS (c_D_isTime hJ v π x3) ⟨hU, t2_7, t2_5, t1_1, by decide +kernel, by decide, by decide⟩ t2_6 rfl hl.1 rfl (Nat.le_of_ble_eq_true rfl) d_D_times_18 ⟨Nat.le_of_ble_eq_true rfl, Nat.le_of_ble_eq_true rfl⟩ (fun r u H locs hp hP hS => ?_)
      obtain ⟨rfl, rfl⟩ := hp
      refine lv_if_eq (tgt := 32) S.1 S.2.1 d_D_times_21 (by decide) (fun c_t => ?_) (fun c_t => ?_)
      · have c_t := pI_no c_t
        refine lv_iconst (v := 0) S.1 S.2.1 d_D_times_32 (by decide) ?_
        exact uZret S hr hlk rfl (v, π) hP hS (by (try rw [hX_1]); show ite _ _ _; rw [if_neg (fun z => c_t z.1)]; exact ⟨rfl, rfl⟩) d_D_times_33
      · have c_t := pI_yes c_t
        refine lv_iload S.1 S.2.1 d_D_times_24 (lv_at hl 5 rfl) ?_
        refine uSi (n := 1) (As := [.int x4]) (rest := []) S hK hN hP hS (c_D_isTime hJ v π x4) ⟨hU, t2_7, t2_5, t1_1, by decide +kernel, by decide, by decide⟩ t2_6 rfl hl.1 rfl (Nat.le_of_ble_eq_true rfl) d_D_times_26 ⟨Nat.le_of_ble_eq_true rfl, Nat.le_of_ble_eq_true rfl⟩ (fun r u H locs hp hP hS => ?_)
        obtain ⟨rfl, rfl⟩ := hp
        refine lv_if_ne (tgt := 34) S.1 S.2.1 d_D_times_29 (by decide) (fun c_u => ?_) (fun c_u => ?_)
        · have c_u := pI_yes c_u
          refine lv_aload_n S.1 S.2.1 d_D_times_34 rfl (lv_at hl 1 rfl) ?_
          refine ur_get (k := 0) (v := .ref (ad 4)) S hK hP (by decide) xg_desk rfl (fun w h => hU w (in_D w h)) 3 (by decide) (hU _ t1_161) rfl d_D_times_35 ?_
          refine lv_iload S.1 S.2.1 d_D_times_38 (lv_at hl 0 rfl) ?_
          refine uVr (n := 1) (b := 4) (As := [.int (nI p_2)]) (rest := []) S hK hN hP hS (c_B_at hJ v π p_2 (by omega)) ⟨hU, t2_11, t2_8, t1_5, by decide +kernel, by decide, by decide⟩ t2_9 t2_10 (by decide) xg_book rfl rfl rfl hl.1 rfl (Nat.le_of_ble_eq_true rfl) d_D_times_40 ⟨Nat.le_of_ble_eq_true rfl, Nat.le_of_ble_eq_true rfl⟩ (fun r u H locs hp hP hS => ?_)
          obtain ⟨rfl, rfl⟩ := hp
          refine lv_astore (lv' := [(6, .ref (ad (89 + π p_2))), (5, .int (nI p_2)), (0, .ref (ad 0)), (1, .int a), (2, .int b), (3, .int x3), (4, .int x4)]) S.1 S.2.1 d_D_times_43 hl (by decide) rfl (fun ls hl => ?_)
          refine lv_aload S.1 S.2.1 d_D_times_45 (lv_at hl 0 rfl) ?_
          refine lv_iload_n S.1 S.2.1 d_D_times_47 rfl (lv_at hl 5 rfl) ?_
          refine ur_putN (k := (89 + (π p_2))) (v := .int x3) (g' := xG ca ad (up3 v 12 (π p_2) 0 x3, π)) S hK hP (uD _ hJ) hS (kb_C (hB.2.2 _ (by omega))) (xg_cue (hB.2.2 _ (by omega))) rfl (fun w h => hU w (in_C w h)) ty_C tyk_C nm_C 3 (by decide) (hN _ t1_82) rfl rfl rfl (Nat.le_of_ble_eq_true rfl) (xs_cup (hB.2.2 _ (by omega))) d_D_times_48 (fun H locs hP hS => ?_)
          refine lv_aload S.1 S.2.1 d_D_times_51 (lv_at hl 0 rfl) ?_
          refine lv_iload S.1 S.2.1 d_D_times_53 (lv_at hl 6 rfl) ?_
          refine ur_putN (k := (89 + (π p_2))) (v := .int x4) (g' := xG ca ad (up3 (up3 v 12 (π p_2) 0 x3) 13 (π p_2) 0 x4, π)) S hK hP (uD _ hJ) hS (kb_C (hB.2.2 _ (by omega))) (xg_cue (hB.2.2 _ (by omega))) rfl (fun w h => hU w (in_C w h)) ty_C tyk_C nm_C 4 (by decide) (hN _ t1_85) rfl rfl rfl (Nat.le_of_ble_eq_true rfl) (xs_cdown (hB.2.2 _ (by omega))) d_D_times_55 (fun H locs hP hS => ?_)
          refine lv_iconst (v := 1) S.1 S.2.1 d_D_times_58 (by decide) ?_
          exact uZret S hr hlk rfl ((up3 (up3 v 12 (π p_2) 0 x3) 13 (π p_2) 0 x4), π) hP hS (by (try rw [hX_1]); show ite _ _ _; rw [if_pos ⟨c_t, c_u⟩]; exact ⟨rfl, rfl⟩) d_D_times_59
        · have c_u := pI_no c_u
          refine lv_iconst (v := 0) S.1 S.2.1 d_D_times_32 (by decide) ?_
          exact uZret S hr hlk rfl (v, π) hP hS (by (try rw [hX_1]); show ite _ _ _; rw [if_neg (fun z => c_u z.2)]; exact ⟨rfl, rfl⟩) d_D_times_33

set_option maxRecDepth 100000 in
set_option maxHeartbeats 4000000 in
theorem c_D_delays {l : Launch} {D : va_G} {ca : Nat → ClassId} {ad : Nat → Nat} (hJ : uJ 165 ad) (v : Nat → Nat → Nat → Int32) (π : Nat → Nat) (n : Nat) (hB : xBk v π n) (a b x3 x4 : Int32) : uMi l y_D_delays b_D_delays 7 (some .boolean) 3 68 D clsAll (tysAll ca) 165 ad (xG ca ad) (v, π) [.ref (ad 0), .int a, .int b, .int x3, .int x4] (fun r u => match fndO v π n a b with | none => u = (v, π) ∧ r = 0 | some q => if isTm x3 ∧ (x4 = -1 ∨ isTm x4) then u = (up3 (up3 v 14 (π q) 0 x3) 15 (π q) 0 x4, π) ∧ r = 1 else u = (v, π) ∧ r = 0) := by
  refine uStart (by decide) (Nat.le_of_ble_eq_true rfl) ?_
  intro p e s m below meth c ls S hr hlk hK hN hP hl
  have hU : ∀ w ∈ uWS, w ∈ (Cond.code y_D_delays b_D_delays 7 (some .boolean) :: uWS) := fun w h => List.mem_cons_of_mem _ h
  have hS : va_S (uA 165 ad s.heap.size) s.heap s.heap [] := va_S.rf
  have hl : lv_has ls 7 [(0, .ref (ad 0)), (1, .int a), (2, .int b), (3, .int x3), (4, .int x4)] := hl
  have hn40 : n ≤ 40 := hB.2.1
  refine lv_aload_n S.1 S.2.1 d_D_delays_0 rfl (lv_at hl 0 rfl) ?_
  refine ur_get (k := 0) (v := .ref (ad 4)) S hK hP (by decide) xg_desk rfl (fun w h => hU w (in_D w h)) 3 (by decide) (hU _ t1_161) rfl d_D_delays_1 ?_
  refine lv_iload_n S.1 S.2.1 d_D_delays_4 rfl (lv_at hl 1 rfl) ?_
  refine lv_iload_n S.1 S.2.1 d_D_delays_5 rfl (lv_at hl 2 rfl) ?_
  refine uVi (n := 2) (b := 4) (As := [.int a, .int b]) (rest := []) S hK hN hP hS (c_B_find hJ v π n hB a b) ⟨hU, t1_232, t1_229, t1_5, by decide +kernel, by decide, by decide⟩ t1_230 t1_231 (by decide) xg_book rfl rfl rfl hl.1 rfl (Nat.le_of_ble_eq_true rfl) d_D_delays_6 ⟨Nat.le_of_ble_eq_true rfl, Nat.le_of_ble_eq_true rfl⟩ (fun r u H locs hp hP hS => ?_)
  obtain ⟨rfl, rfl⟩ := hp
  rcases hX_1 : fndO v π n a b with _ | p_2
  · refine lv_istore (lv' := [(5, .int (-1)), (0, .ref (ad 0)), (1, .int a), (2, .int b), (3, .int x3), (4, .int x4)]) S.1 S.2.1 d_D_delays_9 hl (by decide) rfl (fun ls hl => ?_)
    refine lv_iload S.1 S.2.1 d_D_delays_11 (lv_at hl 0 rfl) ?_
    refine lv_iconst (v := (-1)) S.1 S.2.1 d_D_delays_13 (by decide) ?_
    refine lv_icmp_eq (tgt := 24) S.1 S.2.1 d_D_delays_14 (by decide) (fun c_3 => ?_) (fun c_3 => ?_)
    · refine lv_iconst (v := 0) S.1 S.2.1 d_D_delays_24 (by decide) ?_
      exact uZret S hr hlk rfl (v, π) hP hS (by (try rw [hX_1]); exact ⟨rfl, rfl⟩) d_D_delays_25
    · exact absurd rfl c_3
  · have hp_2 : p_2 < n := fndO_lt _ hX_1
    refine lv_istore (lv' := [(5, .int (nI p_2)), (0, .ref (ad 0)), (1, .int a), (2, .int b), (3, .int x3), (4, .int x4)]) S.1 S.2.1 d_D_delays_9 hl (by decide) rfl (fun ls hl => ?_)
    refine lv_iload S.1 S.2.1 d_D_delays_11 (lv_at hl 0 rfl) ?_
    refine lv_iconst (v := (-1)) S.1 S.2.1 d_D_delays_13 (by decide) ?_
    refine lv_icmp_eq (tgt := 24) S.1 S.2.1 d_D_delays_14 (by decide) (fun c_4 => ?_) (fun c_4 => ?_)
    · exact absurd c_4 (nI_nm1 (by omega))
    · refine lv_iload_n S.1 S.2.1 d_D_delays_17 rfl (lv_at hl 4 rfl) ?_
      refine uSi (n := 1) (As := [.int x3]) (rest := []) S hK hN hP hS (c_D_isTime hJ v π x3) ⟨hU, t2_7, t2_5, t1_1, by decide +kernel, by decide, by decide⟩ t2_6 rfl hl.1 rfl (Nat.le_of_ble_eq_true rfl) d_D_delays_18 ⟨Nat.le_of_ble_eq_true rfl, Nat.le_of_ble_eq_true rfl⟩ (fun r u H locs hp hP hS => ?_)
      obtain ⟨rfl, rfl⟩ := hp
      refine lv_if_ne (tgt := 26) S.1 S.2.1 d_D_delays_21 (by decide) (fun c_t => ?_) (fun c_t => ?_)
      · have c_t := pI_yes c_t
        refine lv_iload S.1 S.2.1 d_D_delays_26 (lv_at hl 5 rfl) ?_
        refine lv_iconst (v := (-1)) S.1 S.2.1 d_D_delays_28 (by decide) ?_
        refine lv_icmp_eq (tgt := 42) S.1 S.2.1 d_D_delays_29 (by decide) (fun c_n => ?_) (fun c_n => ?_)
        · refine lv_aload_n S.1 S.2.1 d_D_delays_42 rfl (lv_at hl 1 rfl) ?_
          refine ur_get (k := 0) (v := .ref (ad 4)) S hK hP (by decide) xg_desk rfl (fun w h => hU w (in_D w h)) 3 (by decide) (hU _ t1_161) rfl d_D_delays_43 ?_
          refine lv_iload S.1 S.2.1 d_D_delays_46 (lv_at hl 0 rfl) ?_
          refine uVr (n := 1) (b := 4) (As := [.int (nI p_2)]) (rest := []) S hK hN hP hS (c_B_at hJ v π p_2 (by omega)) ⟨hU, t2_11, t2_8, t1_5, by decide +kernel, by decide, by decide⟩ t2_9 t2_10 (by decide) xg_book rfl rfl rfl hl.1 rfl (Nat.le_of_ble_eq_true rfl) d_D_delays_48 ⟨Nat.le_of_ble_eq_true rfl, Nat.le_of_ble_eq_true rfl⟩ (fun r u H locs hp hP hS => ?_)
          obtain ⟨rfl, rfl⟩ := hp
          refine lv_astore (lv' := [(6, .ref (ad (89 + π p_2))), (5, .int (nI p_2)), (0, .ref (ad 0)), (1, .int a), (2, .int b), (3, .int x3), (4, .int x4)]) S.1 S.2.1 d_D_delays_51 hl (by decide) rfl (fun ls hl => ?_)
          refine lv_aload S.1 S.2.1 d_D_delays_53 (lv_at hl 0 rfl) ?_
          refine lv_iload_n S.1 S.2.1 d_D_delays_55 rfl (lv_at hl 5 rfl) ?_
          refine ur_putN (k := (89 + (π p_2))) (v := .int x3) (g' := xG ca ad (up3 v 14 (π p_2) 0 x3, π)) S hK hP (uD _ hJ) hS (kb_C (hB.2.2 _ (by omega))) (xg_cue (hB.2.2 _ (by omega))) rfl (fun w h => hU w (in_C w h)) ty_C tyk_C nm_C 5 (by decide) (hN _ t1_88) rfl rfl rfl (Nat.le_of_ble_eq_true rfl) (xs_cdelay (hB.2.2 _ (by omega))) d_D_delays_56 (fun H locs hP hS => ?_)
          refine lv_aload S.1 S.2.1 d_D_delays_59 (lv_at hl 0 rfl) ?_
          refine lv_iload S.1 S.2.1 d_D_delays_61 (lv_at hl 6 rfl) ?_
          refine ur_putN (k := (89 + (π p_2))) (v := .int x4) (g' := xG ca ad (up3 (up3 v 14 (π p_2) 0 x3) 15 (π p_2) 0 x4, π)) S hK hP (uD _ hJ) hS (kb_C (hB.2.2 _ (by omega))) (xg_cue (hB.2.2 _ (by omega))) rfl (fun w h => hU w (in_C w h)) ty_C tyk_C nm_C 6 (by decide) (hN _ t1_90) rfl rfl rfl (Nat.le_of_ble_eq_true rfl) (xs_cfollow (hB.2.2 _ (by omega))) d_D_delays_63 (fun H locs hP hS => ?_)
          refine lv_iconst (v := 1) S.1 S.2.1 d_D_delays_66 (by decide) ?_
          exact uZret S hr hlk rfl ((up3 (up3 v 14 (π p_2) 0 x3) 15 (π p_2) 0 x4), π) hP hS (by (try rw [hX_1]); show ite _ _ _; rw [if_pos ⟨c_t, Or.inl c_n⟩]; exact ⟨rfl, rfl⟩) d_D_delays_67
        · refine lv_iload S.1 S.2.1 d_D_delays_32 (lv_at hl 5 rfl) ?_
          refine uSi (n := 1) (As := [.int x4]) (rest := []) S hK hN hP hS (c_D_isTime hJ v π x4) ⟨hU, t2_7, t2_5, t1_1, by decide +kernel, by decide, by decide⟩ t2_6 rfl hl.1 rfl (Nat.le_of_ble_eq_true rfl) d_D_delays_34 ⟨Nat.le_of_ble_eq_true rfl, Nat.le_of_ble_eq_true rfl⟩ (fun r u H locs hp hP hS => ?_)
          obtain ⟨rfl, rfl⟩ := hp
          refine lv_if_ne (tgt := 42) S.1 S.2.1 d_D_delays_37 (by decide) (fun c_u => ?_) (fun c_u => ?_)
          · have c_u := pI_yes c_u
            refine lv_aload_n S.1 S.2.1 d_D_delays_42 rfl (lv_at hl 1 rfl) ?_
            refine ur_get (k := 0) (v := .ref (ad 4)) S hK hP (by decide) xg_desk rfl (fun w h => hU w (in_D w h)) 3 (by decide) (hU _ t1_161) rfl d_D_delays_43 ?_
            refine lv_iload S.1 S.2.1 d_D_delays_46 (lv_at hl 0 rfl) ?_
            refine uVr (n := 1) (b := 4) (As := [.int (nI p_2)]) (rest := []) S hK hN hP hS (c_B_at hJ v π p_2 (by omega)) ⟨hU, t2_11, t2_8, t1_5, by decide +kernel, by decide, by decide⟩ t2_9 t2_10 (by decide) xg_book rfl rfl rfl hl.1 rfl (Nat.le_of_ble_eq_true rfl) d_D_delays_48 ⟨Nat.le_of_ble_eq_true rfl, Nat.le_of_ble_eq_true rfl⟩ (fun r u H locs hp hP hS => ?_)
            obtain ⟨rfl, rfl⟩ := hp
            refine lv_astore (lv' := [(6, .ref (ad (89 + π p_2))), (5, .int (nI p_2)), (0, .ref (ad 0)), (1, .int a), (2, .int b), (3, .int x3), (4, .int x4)]) S.1 S.2.1 d_D_delays_51 hl (by decide) rfl (fun ls hl => ?_)
            refine lv_aload S.1 S.2.1 d_D_delays_53 (lv_at hl 0 rfl) ?_
            refine lv_iload_n S.1 S.2.1 d_D_delays_55 rfl (lv_at hl 5 rfl) ?_
            refine ur_putN (k := (89 + (π p_2))) (v := .int x3) (g' := xG ca ad (up3 v 14 (π p_2) 0 x3, π)) S hK hP (uD _ hJ) hS (kb_C (hB.2.2 _ (by omega))) (xg_cue (hB.2.2 _ (by omega))) rfl (fun w h => hU w (in_C w h)) ty_C tyk_C nm_C 5 (by decide) (hN _ t1_88) rfl rfl rfl (Nat.le_of_ble_eq_true rfl) (xs_cdelay (hB.2.2 _ (by omega))) d_D_delays_56 (fun H locs hP hS => ?_)
            refine lv_aload S.1 S.2.1 d_D_delays_59 (lv_at hl 0 rfl) ?_
            refine lv_iload S.1 S.2.1 d_D_delays_61 (lv_at hl 6 rfl) ?_
            refine ur_putN (k := (89 + (π p_2))) (v := .int x4) (g' := xG ca ad (up3 (up3 v 14 (π p_2) 0 x3) 15 (π p_2) 0 x4, π)) S hK hP (uD _ hJ) hS (kb_C (hB.2.2 _ (by omega))) (xg_cue (hB.2.2 _ (by omega))) rfl (fun w h => hU w (in_C w h)) ty_C tyk_C nm_C 6 (by decide) (hN _ t1_90) rfl rfl rfl (Nat.le_of_ble_eq_true rfl) (xs_cfollow (hB.2.2 _ (by omega))) d_D_delays_63 (fun H locs hP hS => ?_)
            refine lv_iconst (v := 1) S.1 S.2.1 d_D_delays_66 (by decide) ?_
            exact uZret S hr hlk rfl ((up3 (up3 v 14 (π p_2) 0 x3) 15 (π p_2) 0 x4), π) hP hS (by (try rw [hX_1]); show ite _ _ _; rw [if_pos ⟨c_t, Or.inr c_u⟩]; exact ⟨rfl, rfl⟩) d_D_delays_67
          · have c_u := pI_no c_u
            refine lv_iconst (v := 0) S.1 S.2.1 d_D_delays_40 (by decide) ?_
            exact uZret S hr hlk rfl (v, π) hP hS (by (try rw [hX_1]); show ite _ _ _; rw [if_neg (fun z => z.2.elim c_n c_u)]; exact ⟨rfl, rfl⟩) d_D_delays_41
      · have c_t := pI_no c_t
        refine lv_iconst (v := 0) S.1 S.2.1 d_D_delays_24 (by decide) ?_
        exact uZret S hr hlk rfl (v, π) hP hS (by (try rw [hX_1]); show ite _ _ _; rw [if_neg (fun z => c_t z.1)]; exact ⟨rfl, rfl⟩) d_D_delays_25

set_option maxRecDepth 100000 in
set_option maxHeartbeats 4000000 in
theorem c_D_count {l : Launch} {D : va_G} {ca : Nat → ClassId} {ad : Nat → Nat} (hJ : uJ 165 ad) (v : Nat → Nat → Nat → Int32) (π : Nat → Nat) (n : Nat) (hB : xBk v π n) (x1 : Int32) : uMi l y_D_count b_D_count 2 (some .int) 1 22 D clsAll (tysAll ca) 165 ad (xG ca ad) (v, π) [.ref (ad 0), .int x1] (fun r u => u = (v, π) ∧ r = cntS v π n x1) := by
  refine uStart (by decide) (Nat.le_of_ble_eq_true rfl) ?_
  intro p e s m below meth c ls S hr hlk hK hN hP hl
  have hU : ∀ w ∈ uWS, w ∈ (Cond.code y_D_count b_D_count 2 (some .int) :: uWS) := fun w h => List.mem_cons_of_mem _ h
  have hS : va_S (uA 165 ad s.heap.size) s.heap s.heap [] := va_S.rf
  have hl : lv_has ls 2 [(0, .ref (ad 0)), (1, .int x1)] := hl
  have hn40 : n ≤ 40 := hB.2.1
  refine lv_iload_n S.1 S.2.1 d_D_count_0 rfl (lv_at hl 1 rfl) ?_
  rcases pk_ix x1 (n := 5) (by decide) with c_x | c_x | ⟨j, hj, e_x⟩
  · refine lv_tableOut (tgt := 70) S.1 S.2.1 d_D_count_1 (Or.inl (by rw [Int32.lt_iff_toInt_lt] at c_x; exact c_x)) (by decide) ?_
    refine lv_iconst (v := (-1)) S.1 S.2.1 d_D_count_70 (by decide) ?_
    exact uIret S hr hlk (v, π) hP hS (by refine ⟨rfl, ?_⟩; unfold cntS; rw [if_neg (fun h => by subst h; exact absurd c_x (by decide)), if_neg (fun h => by subst h; exact absurd c_x (by decide)), if_neg (fun h => by subst h; exact absurd c_x (by decide)), if_neg (fun h => by subst h; exact absurd c_x (by decide)), if_neg (fun h => by subst h; exact absurd c_x (by decide))]) d_D_count_71
  · refine lv_tableOut (tgt := 70) S.1 S.2.1 d_D_count_1 (Or.inr (by rw [Int32.le_iff_toInt_le, nI_toInt (by decide)] at c_x; omega)) (by decide) ?_
    refine lv_iconst (v := (-1)) S.1 S.2.1 d_D_count_70 (by decide) ?_
    exact uIret S hr hlk (v, π) hP hS (by refine ⟨rfl, ?_⟩; unfold cntS; rw [if_neg (fun h => by subst h; exact absurd c_x (by decide)), if_neg (fun h => by subst h; exact absurd c_x (by decide)), if_neg (fun h => by subst h; exact absurd c_x (by decide)), if_neg (fun h => by subst h; exact absurd c_x (by decide)), if_neg (fun h => by subst h; exact absurd c_x (by decide))]) d_D_count_71
  · subst e_x
    rcases (by omega : j = 0 ∨ j = 1 ∨ j = 2 ∨ j = 3 ∨ j = 4) with rfl | rfl | rfl | rfl | rfl
    · refine lv_tableIn (off := 35) (tgt := 36) S.1 S.2.1 d_D_count_1 (by decide) (by decide) rfl (by decide) ?_
      refine lv_aload_n S.1 S.2.1 d_D_count_36 rfl (lv_at hl 0 rfl) ?_
      refine ur_get (k := 0) (v := .ref (ad 4)) S hK hP (by decide) xg_desk rfl (fun w h => hU w (in_D w h)) 3 (by decide) (hU _ t1_161) rfl d_D_count_37 ?_
      refine ur_getN (k := 4) (v := .int (v 4 0 0)) S hK hP (by decide) xg_book rfl (fun w h => hU w (in_B w h)) 1 (by decide) (hN _ t1_108) rfl d_D_count_40 ?_
      exact uIret S hr hlk (v, π) hP hS (⟨rfl, rfl⟩) d_D_count_43
    · refine lv_tableIn (off := 43) (tgt := 44) S.1 S.2.1 d_D_count_1 (by decide) (by decide) rfl (by decide) ?_
      refine lv_aload_n S.1 S.2.1 d_D_count_44 rfl (lv_at hl 0 rfl) ?_
      refine ur_get (k := 0) (v := .ref (ad 4)) S hK hP (by decide) xg_desk rfl (fun w h => hU w (in_D w h)) 3 (by decide) (hU _ t1_161) rfl d_D_count_45 ?_
      refine uVi (n := 0) (b := 4) (As := []) (rest := []) S hK hN hP hS (c_B_moveCount hJ v π n hB) ⟨hU, t2_37, t2_34, t1_5, by decide +kernel, by decide, by decide⟩ t2_35 t2_36 (by decide) xg_book rfl rfl rfl hl.1 rfl (Nat.le_of_ble_eq_true rfl) d_D_count_48 ⟨Nat.le_of_ble_eq_true rfl, Nat.le_of_ble_eq_true rfl⟩ (fun r u H locs hp hP hS => ?_)
      obtain ⟨rfl, rfl⟩ := hp
      exact uIret S hr hlk (v, π) hP hS (⟨rfl, rfl⟩) d_D_count_51
    · refine lv_tableIn (off := 51) (tgt := 52) S.1 S.2.1 d_D_count_1 (by decide) (by decide) rfl (by decide) ?_
      refine lv_aload_n S.1 S.2.1 d_D_count_52 rfl (lv_at hl 0 rfl) ?_
      refine ur_get (k := 0) (v := .ref (ad 87)) S hK hP (by decide) xg_desk rfl (fun w h => hU w (in_D w h)) 1 (by decide) (hU _ t1_159) rfl d_D_count_53 ?_
      refine ur_getN (k := (7 + 2 * 40)) (v := .int (v 16 40 0)) S hK hP (kb_V (by decide)) (xg_row (by decide)) rfl (fun w h => hU w (in_V w h)) 1 (by decide) (hN _ t1_39) rfl d_D_count_56 ?_
      exact uIret S hr hlk (v, π) hP hS (⟨rfl, rfl⟩) d_D_count_59
    · refine lv_tableIn (off := 59) (tgt := 60) S.1 S.2.1 d_D_count_1 (by decide) (by decide) rfl (by decide) ?_
      refine lv_aload_n S.1 S.2.1 d_D_count_60 rfl (lv_at hl 0 rfl) ?_
      refine ur_get (k := 0) (v := .int (v 5 0 0)) S hK hP (by decide) xg_desk rfl (fun w h => hU w (in_D w h)) 5 (by decide) (hU _ t1_163) rfl d_D_count_61 ?_
      exact uIret S hr hlk (v, π) hP hS (⟨rfl, rfl⟩) d_D_count_64
    · refine lv_tableIn (off := 64) (tgt := 65) S.1 S.2.1 d_D_count_1 (by decide) (by decide) rfl (by decide) ?_
      refine lv_aload_n S.1 S.2.1 d_D_count_65 rfl (lv_at hl 0 rfl) ?_
      refine ur_get (k := 0) (v := .int (v 6 0 0)) S hK hP (by decide) xg_desk rfl (fun w h => hU w (in_D w h)) 6 (by decide) (hU _ t1_164) rfl d_D_count_66 ?_
      exact uIret S hr hlk (v, π) hP hS (⟨rfl, rfl⟩) d_D_count_69
