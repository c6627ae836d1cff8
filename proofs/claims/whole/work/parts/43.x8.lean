/-! The desk: methods that throw nothing (printed by wip/gen/gen_x8.py) -/
set_option maxRecDepth 100000 in
set_option maxHeartbeats 4000000 in
theorem c_D_isTellable {l : Launch} {D : va_G} {ca : Nat → ClassId} {ad : Nat → Nat} (hJ : uJ 165 ad) (v : Nat → Nat → Nat → Int32) (π : Nat → Nat) (x1 : Int32) : uMi l y_D_isTellable b_D_isTellable 2 (some .boolean) 0 0 D clsAll (tysAll ca) 165 ad (xG ca ad) (v, π) [.ref (ad 0), .int x1] (fun r u => u = (v, π) ∧ r = pI (¬ x1 < v 5 0 0 ∧ ¬ 1000000000 < x1)) := by
  refine uStart (by decide) (Nat.le_of_ble_eq_true rfl) ?_
  intro p e s m below meth c ls S hr hlk hK hN hP hl
  have hU : ∀ w ∈ uWS, w ∈ (Cond.code y_D_isTellable b_D_isTellable 2 (some .boolean) :: uWS) := fun w h => List.mem_cons_of_mem _ h
  have hS : va_S (uA 165 ad s.heap.size) s.heap s.heap [] := va_S.rf
  have hl : lv_has ls 2 [(0, .ref (ad 0)), (1, .int x1)] := hl
  refine lv_iload_n S.1 S.2.1 d_D_isTellable_0 rfl (lv_at hl 1 rfl) ?_
  refine lv_aload_n S.1 S.2.1 d_D_isTellable_1 rfl (lv_at hl 0 rfl) ?_
  refine ur_get (k := 0) (v := .int (v 5 0 0)) S hK hP (by decide) xg_desk rfl (fun w h => hU w (in_D w h)) 5 (by decide) (hU _ t1_163) rfl d_D_isTellable_2 ?_
  refine lv_icmp_lt (tgt := 18) S.1 S.2.1 d_D_isTellable_5 (by decide) (fun c_1 => ?_) (fun c_1 => ?_)
  · refine lv_iconst (v := 0) S.1 S.2.1 d_D_isTellable_18 (by decide) ?_
    exact uZret S hr hlk rfl (v, π) hP hS (by refine ⟨rfl, ?_⟩; simp [pI, c_1]) d_D_isTellable_19
  · refine lv_iload_n S.1 S.2.1 d_D_isTellable_8 rfl (lv_at hl 1 rfl) ?_
    refine lv_ldc (v := 1000000000) S.1 S.2.1 S.2.2.2.1 (S.2.2.2.2 _ (hU _ t3_91)) d_D_isTellable_9 ?_
    refine lv_icmp_gt (tgt := 18) S.1 S.2.1 d_D_isTellable_11 (by decide) (fun c_2 => ?_) (fun c_2 => ?_)
    · refine lv_iconst (v := 0) S.1 S.2.1 d_D_isTellable_18 (by decide) ?_
      exact uZret S hr hlk rfl (v, π) hP hS (by refine ⟨rfl, ?_⟩; simp [pI, c_1, c_2]) d_D_isTellable_19
    · refine lv_iconst (v := 1) S.1 S.2.1 d_D_isTellable_14 (by decide) ?_
      refine lv_goto (tgt := 19) S.1 S.2.1 d_D_isTellable_15 (by decide) ?_
      exact uZret S hr hlk rfl (v, π) hP hS (by refine ⟨rfl, ?_⟩; simp [pI, c_1, c_2]) d_D_isTellable_19

set_option maxRecDepth 100000 in
set_option maxHeartbeats 4000000 in
theorem c_D_kind {l : Launch} {D : va_G} {ca : Nat → ClassId} {ad : Nat → Nat} (hJ : uJ 165 ad) (v : Nat → Nat → Nat → Int32) (π : Nat → Nat) (x1 x2 : Int32) (hz : vp_nar .boolean x2 = x2) : uMi l y_D_kind b_D_kind 3 (some .boolean) 1 20 D clsAll (tysAll ca) 165 ad (xG ca ad) (v, π) [.ref (ad 0), .int x1, .int x2] (fun r u => if isCh x1 then u = (up3 v 0 0 x1.toNatClampNeg x2, π) ∧ r = 1 else u = (v, π) ∧ r = 0) := by
  refine uStart (by decide) (Nat.le_of_ble_eq_true rfl) ?_
  intro p e s m below meth c ls S hr hlk hK hN hP hl
  have hU : ∀ w ∈ uWS, w ∈ (Cond.code y_D_kind b_D_kind 3 (some .boolean) :: uWS) := fun w h => List.mem_cons_of_mem _ h
  have hS : va_S (uA 165 ad s.heap.size) s.heap s.heap [] := va_S.rf
  have hl : lv_has ls 3 [(0, .ref (ad 0)), (1, .int x1), (2, .int x2)] := hl
  refine lv_iload_n S.1 S.2.1 d_D_kind_0 rfl (lv_at hl 1 rfl) ?_
  refine uSi (n := 1) (As := [.int x1]) (rest := []) S hK hN hP hS (c_D_isChannel hJ v π x1) ⟨hU, t1_186, t1_184, t1_1, by decide +kernel, by decide, by decide⟩ t1_185 rfl hl.1 rfl (Nat.le_of_ble_eq_true rfl) d_D_kind_1 ⟨Nat.le_of_ble_eq_true rfl, Nat.le_of_ble_eq_true rfl⟩ (fun r u H locs hp hP hS => ?_)
  obtain ⟨rfl, rfl⟩ := hp
  refine lv_if_ne (tgt := 9) S.1 S.2.1 d_D_kind_4 (by decide) (fun c_a => ?_) (fun c_a => ?_)
  · have c_a := pI_yes c_a
    obtain ⟨ch, hch, ech⟩ := isCh_nat c_a
    subst ech
    refine lv_aload_n S.1 S.2.1 d_D_kind_9 rfl (lv_at hl 0 rfl) ?_
    refine ur_get (k := 0) (v := .ref (ad 1)) S hK hP (by decide) xg_desk rfl (fun w h => hU w (in_D w h)) 0 (by decide) (hU _ t1_158) rfl d_D_kind_10 ?_
    refine lv_iload_n S.1 S.2.1 d_D_kind_13 rfl (lv_at hl 1 rfl) ?_
    refine lv_iload_n S.1 S.2.1 d_D_kind_14 rfl (lv_at hl 2 rfl) ?_
    refine ur_zast (k := 1) (f := (v 0 0)) (j := ch) (g' := xG ca ad (up3 v 0 0 ch x2, π)) S hK hP (uD _ hJ) hS (by decide) 1 xg_att rfl rfl hch (by decide) hz xs_att d_D_kind_15 (fun H locs hP hS => ?_)
    refine lv_iconst (v := 1) S.1 S.2.1 d_D_kind_16 (by decide) ?_
    exact uZret S hr hlk rfl ((up3 v 0 0 ch x2), π) hP hS (by rw [if_pos c_a]; exact ⟨by rw [nI_clamp (by omega)], rfl⟩) d_D_kind_17
  · have c_a := pI_no c_a
    refine lv_iconst (v := 0) S.1 S.2.1 d_D_kind_7 (by decide) ?_
    exact uZret S hr hlk rfl (v, π) hP hS (by rw [if_neg (fun z => c_a z)]; exact ⟨rfl, rfl⟩) d_D_kind_8

set_option maxRecDepth 100000 in
set_option maxHeartbeats 4000000 in
theorem c_D_set {l : Launch} {D : va_G} {ca : Nat → ClassId} {ad : Nat → Nat} (hJ : uJ 165 ad) (v : Nat → Nat → Nat → Int32) (π : Nat → Nat) (x1 x2 : Int32) : uMi l y_D_set b_D_set 3 (some .boolean) 1 22 D clsAll (tysAll ca) 165 ad (xG ca ad) (v, π) [.ref (ad 0), .int x1, .int x2] (fun r u => if isCh x1 ∧ isLv x2 then u = (vPut v 40 x1.toNatClampNeg x2, π) ∧ r = 1 else u = (v, π) ∧ r = 0) := by
  refine uStart (by decide) (Nat.le_of_ble_eq_true rfl) ?_
  intro p e s m below meth c ls S hr hlk hK hN hP hl
  have hU : ∀ w ∈ uWS, w ∈ (Cond.code y_D_set b_D_set 3 (some .boolean) :: uWS) := fun w h => List.mem_cons_of_mem _ h
  have hS : va_S (uA 165 ad s.heap.size) s.heap s.heap [] := va_S.rf
  have hl : lv_has ls 3 [(0, .ref (ad 0)), (1, .int x1), (2, .int x2)] := hl
  refine lv_iload_n S.1 S.2.1 d_D_set_0 rfl (lv_at hl 1 rfl) ?_
  refine uSi (n := 1) (As := [.int x1]) (rest := []) S hK hN hP hS (c_D_isChannel hJ v π x1) ⟨hU, t1_186, t1_184, t1_1, by decide +kernel, by decide, by decide⟩ t1_185 rfl hl.1 rfl (Nat.le_of_ble_eq_true rfl) d_D_set_1 ⟨Nat.le_of_ble_eq_true rfl, Nat.le_of_ble_eq_true rfl⟩ (fun r u H locs hp hP hS => ?_)
  obtain ⟨rfl, rfl⟩ := hp
  refine lv_if_eq (tgt := 14) S.1 S.2.1 d_D_set_4 (by decide) (fun c_a => ?_) (fun c_a => ?_)
  · have c_a := pI_no c_a
    refine lv_iconst (v := 0) S.1 S.2.1 d_D_set_14 (by decide) ?_
    exact uZret S hr hlk rfl (v, π) hP hS (by rw [if_neg (fun z => c_a z.1)]; exact ⟨rfl, rfl⟩) d_D_set_15
  · have c_a := pI_yes c_a
    refine lv_iload_n S.1 S.2.1 d_D_set_7 rfl (lv_at hl 2 rfl) ?_
    refine uSi (n := 1) (As := [.int x2]) (rest := []) S hK hN hP hS (c_D_isLevel hJ v π x2) ⟨hU, t1_193, t1_191, t1_1, by decide +kernel, by decide, by decide⟩ t1_192 rfl hl.1 rfl (Nat.le_of_ble_eq_true rfl) d_D_set_8 ⟨Nat.le_of_ble_eq_true rfl, Nat.le_of_ble_eq_true rfl⟩ (fun r u H locs hp hP hS => ?_)
    obtain ⟨rfl, rfl⟩ := hp
    refine lv_if_ne (tgt := 16) S.1 S.2.1 d_D_set_11 (by decide) (fun c_b => ?_) (fun c_b => ?_)
    · have c_b := pI_yes c_b
      obtain ⟨ch, hch, ech⟩ := isCh_nat c_a
      subst ech
      refine lv_aload_n S.1 S.2.1 d_D_set_16 rfl (lv_at hl 0 rfl) ?_
      refine ur_get (k := 0) (v := .ref (ad 87)) S hK hP (by decide) xg_desk rfl (fun w h => hU w (in_D w h)) 1 (by decide) (hU _ t1_159) rfl d_D_set_17 ?_
      refine lv_iload_n S.1 S.2.1 d_D_set_20 rfl (lv_at hl 1 rfl) ?_
      refine lv_iload_n S.1 S.2.1 d_D_set_21 rfl (lv_at hl 2 rfl) ?_
      refine uVv (n := 2) (b := (7 + 2 * 40)) (As := [.int (nI ch), .int x2]) (rest := []) S hK hN hP hS (c_V_put hJ v π 40 ch (by decide) hch x2) ⟨hU, t1_197, t1_194, t1_2, by decide +kernel, by decide, by decide⟩ t1_195 t1_196 (kb_V (by decide)) (xg_row (by decide)) rfl rfl rfl hl.1 rfl (Nat.le_of_ble_eq_true rfl) d_D_set_22 ⟨Nat.le_of_ble_eq_true rfl, Nat.le_of_ble_eq_true rfl⟩ (fun u H locs hp hP hS => ?_)
      obtain rfl := hp
      refine lv_iconst (v := 1) S.1 S.2.1 d_D_set_25 (by decide) ?_
      exact uZret S hr hlk rfl ((vPut v 40 ch x2), π) hP hS (by rw [if_pos ⟨c_a, c_b⟩]; exact ⟨by rw [nI_clamp (by omega)], rfl⟩) d_D_set_26
    · have c_b := pI_no c_b
      refine lv_iconst (v := 0) S.1 S.2.1 d_D_set_14 (by decide) ?_
      exact uZret S hr hlk rfl (v, π) hP hS (by rw [if_neg (fun z => c_b z.2)]; exact ⟨rfl, rfl⟩) d_D_set_15

set_option maxRecDepth 100000 in
set_option maxHeartbeats 4000000 in
theorem c_D_use {l : Launch} {D : va_G} {ca : Nat → ClassId} {ad : Nat → Nat} (hJ : uJ 165 ad) (v : Nat → Nat → Nat → Int32) (π : Nat → Nat) (x1 x2 : Int32) : uMi l y_D_use b_D_use 3 (some .boolean) 1 22 D clsAll (tysAll ca) 165 ad (xG ca ad) (v, π) [.ref (ad 0), .int x1, .int x2] (fun r u => if isCh x1 ∧ isPal x2 then u = (vPut v 40 x1.toNatClampNeg (256 + x2), π) ∧ r = 1 else u = (v, π) ∧ r = 0) := by
  refine uStart (by decide) (Nat.le_of_ble_eq_true rfl) ?_
  intro p e s m below meth c ls S hr hlk hK hN hP hl
  have hU : ∀ w ∈ uWS, w ∈ (Cond.code y_D_use b_D_use 3 (some .boolean) :: uWS) := fun w h => List.mem_cons_of_mem _ h
  have hS : va_S (uA 165 ad s.heap.size) s.heap s.heap [] := va_S.rf
  have hl : lv_has ls 3 [(0, .ref (ad 0)), (1, .int x1), (2, .int x2)] := hl
  refine lv_iload_n S.1 S.2.1 d_D_use_0 rfl (lv_at hl 1 rfl) ?_
  refine uSi (n := 1) (As := [.int x1]) (rest := []) S hK hN hP hS (c_D_isChannel hJ v π x1) ⟨hU, t1_186, t1_184, t1_1, by decide +kernel, by decide, by decide⟩ t1_185 rfl hl.1 rfl (Nat.le_of_ble_eq_true rfl) d_D_use_1 ⟨Nat.le_of_ble_eq_true rfl, Nat.le_of_ble_eq_true rfl⟩ (fun r u H locs hp hP hS => ?_)
  obtain ⟨rfl, rfl⟩ := hp
  refine lv_if_eq (tgt := 14) S.1 S.2.1 d_D_use_4 (by decide) (fun c_a => ?_) (fun c_a => ?_)
  · have c_a := pI_no c_a
    refine lv_iconst (v := 0) S.1 S.2.1 d_D_use_14 (by decide) ?_
    exact uZret S hr hlk rfl (v, π) hP hS (by rw [if_neg (fun z => c_a z.1)]; exact ⟨rfl, rfl⟩) d_D_use_15
  · have c_a := pI_yes c_a
    refine lv_iload_n S.1 S.2.1 d_D_use_7 rfl (lv_at hl 2 rfl) ?_
    refine uSi (n := 1) (As := [.int x2]) (rest := []) S hK hN hP hS (c_D_isPalette hJ v π x2) ⟨hU, t1_204, t1_202, t1_1, by decide +kernel, by decide, by decide⟩ t1_203 rfl hl.1 rfl (Nat.le_of_ble_eq_true rfl) d_D_use_8 ⟨Nat.le_of_ble_eq_true rfl, Nat.le_of_ble_eq_true rfl⟩ (fun r u H locs hp hP hS => ?_)
    obtain ⟨rfl, rfl⟩ := hp
    refine lv_if_ne (tgt := 16) S.1 S.2.1 d_D_use_11 (by decide) (fun c_b => ?_) (fun c_b => ?_)
    · have c_b := pI_yes c_b
      obtain ⟨ch, hch, ech⟩ := isCh_nat c_a
      subst ech
      refine lv_aload_n S.1 S.2.1 d_D_use_16 rfl (lv_at hl 0 rfl) ?_
      refine ur_get (k := 0) (v := .ref (ad 87)) S hK hP (by decide) xg_desk rfl (fun w h => hU w (in_D w h)) 1 (by decide) (hU _ t1_159) rfl d_D_use_17 ?_
      refine lv_iload_n S.1 S.2.1 d_D_use_20 rfl (lv_at hl 1 rfl) ?_
      refine lv_sipush (v := 256) S.1 S.2.1 d_D_use_21 (by decide) ?_
      refine lv_iload_n S.1 S.2.1 d_D_use_24 rfl (lv_at hl 2 rfl) ?_
      refine lv_iadd S.1 S.2.1 d_D_use_25 ?_
      refine uVv (n := 2) (b := (7 + 2 * 40)) (As := [.int (nI ch), .int (256 + x2)]) (rest := []) S hK hN hP hS (c_V_put hJ v π 40 ch (by decide) hch (256 + x2)) ⟨hU, t1_197, t1_194, t1_2, by decide +kernel, by decide, by decide⟩ t1_195 t1_196 (kb_V (by decide)) (xg_row (by decide)) rfl rfl rfl hl.1 rfl (Nat.le_of_ble_eq_true rfl) d_D_use_26 ⟨Nat.le_of_ble_eq_true rfl, Nat.le_of_ble_eq_true rfl⟩ (fun u H locs hp hP hS => ?_)
      obtain rfl := hp
      refine lv_iconst (v := 1) S.1 S.2.1 d_D_use_29 (by decide) ?_
      exact uZret S hr hlk rfl ((vPut v 40 ch (256 + x2)), π) hP hS (by rw [if_pos ⟨c_a, c_b⟩]; exact ⟨by rw [nI_clamp (by omega)], rfl⟩) d_D_use_30
    · have c_b := pI_no c_b
      refine lv_iconst (v := 0) S.1 S.2.1 d_D_use_14 (by decide) ?_
      exact uZret S hr hlk rfl (v, π) hP hS (by rw [if_neg (fun z => c_b z.2)]; exact ⟨rfl, rfl⟩) d_D_use_15

set_option maxRecDepth 100000 in
set_option maxHeartbeats 4000000 in
theorem c_D_master {l : Launch} {D : va_G} {ca : Nat → ClassId} {ad : Nat → Nat} (hJ : uJ 165 ad) (v : Nat → Nat → Nat → Int32) (π : Nat → Nat) (x1 x2 : Int32) : uMi l y_D_master b_D_master 3 (some .boolean) 1 20 D clsAll (tysAll ca) 165 ad (xG ca ad) (v, π) [.ref (ad 0), .int x1, .int x2] (fun r u => if isPb x1 ∧ isLv x2 then u = (up3 v 26 x1.toNatClampNeg 0 x2, π) ∧ r = 1 else u = (v, π) ∧ r = 0) := by
  refine uStart (by decide) (Nat.le_of_ble_eq_true rfl) ?_
  intro p e s m below meth c ls S hr hlk hK hN hP hl
  have hU : ∀ w ∈ uWS, w ∈ (Cond.code y_D_master b_D_master 3 (some .boolean) :: uWS) := fun w h => List.mem_cons_of_mem _ h
  have hS : va_S (uA 165 ad s.heap.size) s.heap s.heap [] := va_S.rf
  have hl : lv_has ls 3 [(0, .ref (ad 0)), (1, .int x1), (2, .int x2)] := hl
  refine lv_iload_n S.1 S.2.1 d_D_master_0 rfl (lv_at hl 1 rfl) ?_
  refine uSi (n := 1) (As := [.int x1]) (rest := []) S hK hN hP hS (c_D_isPlayback hJ v π x1) ⟨hU, t2_22, t2_20, t1_1, by decide +kernel, by decide, by decide⟩ t2_21 rfl hl.1 rfl (Nat.le_of_ble_eq_true rfl) d_D_master_1 ⟨Nat.le_of_ble_eq_true rfl, Nat.le_of_ble_eq_true rfl⟩ (fun r u H locs hp hP hS => ?_)
  obtain ⟨rfl, rfl⟩ := hp
  refine lv_if_eq (tgt := 14) S.1 S.2.1 d_D_master_4 (by decide) (fun c_a => ?_) (fun c_a => ?_)
  · have c_a := pI_no c_a
    refine lv_iconst (v := 0) S.1 S.2.1 d_D_master_14 (by decide) ?_
    exact uZret S hr hlk rfl (v, π) hP hS (by rw [if_neg (fun z => c_a z.1)]; exact ⟨rfl, rfl⟩) d_D_master_15
  · have c_a := pI_yes c_a
    refine lv_iload_n S.1 S.2.1 d_D_master_7 rfl (lv_at hl 2 rfl) ?_
    refine uSi (n := 1) (As := [.int x2]) (rest := []) S hK hN hP hS (c_D_isLevel hJ v π x2) ⟨hU, t1_193, t1_191, t1_1, by decide +kernel, by decide, by decide⟩ t1_192 rfl hl.1 rfl (Nat.le_of_ble_eq_true rfl) d_D_master_8 ⟨Nat.le_of_ble_eq_true rfl, Nat.le_of_ble_eq_true rfl⟩ (fun r u H locs hp hP hS => ?_)
    obtain ⟨rfl, rfl⟩ := hp
    refine lv_if_ne (tgt := 16) S.1 S.2.1 d_D_master_11 (by decide) (fun c_b => ?_) (fun c_b => ?_)
    · have c_b := pI_yes c_b
      obtain ⟨j, hj, ej⟩ := isPb_nat c_a
      subst ej
      refine lv_aload_n S.1 S.2.1 d_D_master_16 rfl (lv_at hl 0 rfl) ?_
      refine ur_get (k := 0) (v := .ref (ad 6)) S hK hP (by decide) xg_desk rfl (fun w h => hU w (in_D w h)) 4 (by decide) (hU _ t1_162) rfl d_D_master_17 ?_
      refine lv_iload_n S.1 S.2.1 d_D_master_20 rfl (lv_at hl 1 rfl) ?_
      refine ur_aald (k := 6) (q := ad (129 + 6 * j)) (j := j) S hK hP (by decide) 3 xg_plys rfl rfl hj (by decide) rfl d_D_master_21 ?_
      refine lv_iload_n S.1 S.2.1 d_D_master_22 rfl (lv_at hl 2 rfl) ?_
      refine ur_putN (k := (129 + 6 * j)) (v := .int x2) (g' := xG ca ad (up3 v 26 j 0 x2, π)) S hK hP (uD _ hJ) hS (kb_Y hj) (xg_ply hj) rfl (fun w h => hU w (in_Y w h)) ty_Y tyk_Y nm_Y 6 (by decide) (hN _ t1_130) rfl rfl rfl (Nat.le_of_ble_eq_true rfl) (xs_pmaster hj) d_D_master_23 (fun H locs hP hS => ?_)
      refine lv_iconst (v := 1) S.1 S.2.1 d_D_master_26 (by decide) ?_
      exact uZret S hr hlk rfl ((up3 v 26 j 0 x2), π) hP hS (by rw [if_pos ⟨c_a, c_b⟩]; exact ⟨by rw [nI_clamp (by omega)], rfl⟩) d_D_master_27
    · have c_b := pI_no c_b
      refine lv_iconst (v := 0) S.1 S.2.1 d_D_master_14 (by decide) ?_
      exact uZret S hr hlk rfl (v, π) hP hS (by rw [if_neg (fun z => c_b z.2)]; exact ⟨rfl, rfl⟩) d_D_master_15

set_option maxRecDepth 100000 in
set_option maxHeartbeats 4000000 in
theorem c_D_assign {l : Launch} {D : va_G} {ca : Nat → ClassId} {ad : Nat → Nat} (hJ : uJ 165 ad) (v : Nat → Nat → Nat → Int32) (π : Nat → Nat) (x1 x2 : Int32) : uMi l y_D_assign b_D_assign 4 (some .boolean) 1 20 D clsAll (tysAll ca) 165 ad (xG ca ad) (v, π) [.ref (ad 0), .int x1, .int x2] (fun r u => if isPb x1 ∧ isLst x2 ∧ v 28 x1.toNatClampNeg 0 = -1 then u = (up3 v 25 x1.toNatClampNeg 0 x2, π) ∧ r = 1 else u = (v, π) ∧ r = 0) := by
  refine uStart (by decide) (Nat.le_of_ble_eq_true rfl) ?_
  intro p e s m below meth c ls S hr hlk hK hN hP hl
  have hU : ∀ w ∈ uWS, w ∈ (Cond.code y_D_assign b_D_assign 4 (some .boolean) :: uWS) := fun w h => List.mem_cons_of_mem _ h
  have hS : va_S (uA 165 ad s.heap.size) s.heap s.heap [] := va_S.rf
  have hl : lv_has ls 4 [(0, .ref (ad 0)), (1, .int x1), (2, .int x2)] := hl
  refine lv_iload_n S.1 S.2.1 d_D_assign_0 rfl (lv_at hl 1 rfl) ?_
  refine uSi (n := 1) (As := [.int x1]) (rest := []) S hK hN hP hS (c_D_isPlayback hJ v π x1) ⟨hU, t2_22, t2_20, t1_1, by decide +kernel, by decide, by decide⟩ t2_21 rfl hl.1 rfl (Nat.le_of_ble_eq_true rfl) d_D_assign_1 ⟨Nat.le_of_ble_eq_true rfl, Nat.le_of_ble_eq_true rfl⟩ (fun r u H locs hp hP hS => ?_)
  obtain ⟨rfl, rfl⟩ := hp
  refine lv_if_eq (tgt := 14) S.1 S.2.1 d_D_assign_4 (by decide) (fun c_a => ?_) (fun c_a => ?_)
  · have c_a := pI_no c_a
    refine lv_iconst (v := 0) S.1 S.2.1 d_D_assign_14 (by decide) ?_
    exact uZret S hr hlk rfl (v, π) hP hS (by rw [if_neg (fun z => c_a z.1)]; exact ⟨rfl, rfl⟩) d_D_assign_15
  · have c_a := pI_yes c_a
    refine lv_iload_n S.1 S.2.1 d_D_assign_7 rfl (lv_at hl 2 rfl) ?_
    refine uSi (n := 1) (As := [.int x2]) (rest := []) S hK hN hP hS (c_D_isList hJ v π x2) ⟨hU, t2_25, t2_23, t1_1, by decide +kernel, by decide, by decide⟩ t2_24 rfl hl.1 rfl (Nat.le_of_ble_eq_true rfl) d_D_assign_8 ⟨Nat.le_of_ble_eq_true rfl, Nat.le_of_ble_eq_true rfl⟩ (fun r u H locs hp hP hS => ?_)
    obtain ⟨rfl, rfl⟩ := hp
    refine lv_if_ne (tgt := 16) S.1 S.2.1 d_D_assign_11 (by decide) (fun c_b => ?_) (fun c_b => ?_)
    · have c_b := pI_yes c_b
      obtain ⟨j, hj, ej⟩ := isPb_nat c_a
      subst ej
      refine lv_aload_n S.1 S.2.1 d_D_assign_16 rfl (lv_at hl 0 rfl) ?_
      refine ur_get (k := 0) (v := .ref (ad 6)) S hK hP (by decide) xg_desk rfl (fun w h => hU w (in_D w h)) 4 (by decide) (hU _ t1_162) rfl d_D_assign_17 ?_
      refine lv_iload_n S.1 S.2.1 d_D_assign_20 rfl (lv_at hl 1 rfl) ?_
      refine ur_aald (k := 6) (q := ad (129 + 6 * j)) (j := j) S hK hP (by decide) 3 xg_plys rfl rfl hj (by decide) rfl d_D_assign_21 ?_
      refine lv_astore_n (lv' := [(3, .ref (ad (129 + 6 * j))), (0, .ref (ad 0)), (1, .int (nI j)), (2, .int x2)]) S.1 S.2.1 d_D_assign_22 rfl hl (by decide) rfl (fun ls hl => ?_)
      refine lv_aload_n S.1 S.2.1 d_D_assign_23 rfl (lv_at hl 0 rfl) ?_
      refine ur_getN (k := (129 + 6 * j)) (v := .int (v 28 j 0)) S hK hP (kb_Y hj) (xg_ply hj) rfl (fun w h => hU w (in_Y w h)) 8 (by decide) (hN _ t1_134) rfl d_D_assign_24 ?_
      refine lv_iconst (v := (-1)) S.1 S.2.1 d_D_assign_27 (by decide) ?_
      refine lv_icmp_eq (tgt := 33) S.1 S.2.1 d_D_assign_28 (by decide) (fun c_s => ?_) (fun c_s => ?_)
      · refine lv_aload_n S.1 S.2.1 d_D_assign_33 rfl (lv_at hl 0 rfl) ?_
        refine lv_iload_n S.1 S.2.1 d_D_assign_34 rfl (lv_at hl 3 rfl) ?_
        refine ur_putN (k := (129 + 6 * j)) (v := .int x2) (g' := xG ca ad (up3 v 25 j 0 x2, π)) S hK hP (uD _ hJ) hS (kb_Y hj) (xg_ply hj) rfl (fun w h => hU w (in_Y w h)) ty_Y tyk_Y nm_Y 5 (by decide) (hN _ t1_128) rfl rfl rfl (Nat.le_of_ble_eq_true rfl) (xs_plist hj) d_D_assign_35 (fun H locs hP hS => ?_)
        refine lv_iconst (v := 1) S.1 S.2.1 d_D_assign_38 (by decide) ?_
        exact uZret S hr hlk rfl ((up3 v 25 j 0 x2), π) hP hS (by rw [nI_clamp (by omega), if_pos ⟨c_a, c_b, c_s⟩]; exact ⟨rfl, rfl⟩) d_D_assign_39
      · refine lv_iconst (v := 0) S.1 S.2.1 d_D_assign_31 (by decide) ?_
        exact uZret S hr hlk rfl (v, π) hP hS (by rw [nI_clamp (by omega), if_neg (fun z => c_s z.2.2)]; exact ⟨rfl, rfl⟩) d_D_assign_32
    · have c_b := pI_no c_b
      refine lv_iconst (v := 0) S.1 S.2.1 d_D_assign_14 (by decide) ?_
      exact uZret S hr hlk rfl (v, π) hP hS (by rw [if_neg (fun z => c_b z.2.1)]; exact ⟨rfl, rfl⟩) d_D_assign_15
