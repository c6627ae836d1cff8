/-! The model: tracking (printed by wip/gen/gen_m3.py) -/
set_option maxRecDepth 100000 in
set_option maxHeartbeats 4000000 in
theorem c_M_palette {l : Launch} {D : va_G} {ca : Nat → ClassId} {ad : Nat → Nat} (hJ : uJ 22 ad) (w : Nat → Nat → Int32) (x1 x2 x3 : Int32) : uMi l y_M_palette b_M_palette 4 (some .boolean) 1 20 D clsAll (tysAll ca) 22 ad (mG ca ad) w [.ref (ad 0), .int x1, .int x2, .int x3] (fun r u => if ¬ x1 < 0 ∧ ¬ 15 < x1 ∧ isCh x2 ∧ (x3 = -1 ∨ isLm x3) then u = up2 (up2 w 0 0 0) 3 (64 * x1.toNatClampNeg + x2.toNatClampNeg) (s16 x3) ∧ r = 1 else u = (up2 w 0 0 0) ∧ r = 0) := by
  refine uStart (by decide) (Nat.le_of_ble_eq_true rfl) ?_
  intro p e s m below meth c ls S hr hlk hK hN hP hl
  have hU : ∀ w ∈ uWS, w ∈ (Cond.code y_M_palette b_M_palette 4 (some .boolean) :: uWS) := fun w h => List.mem_cons_of_mem _ h
  have hS : va_S (uA 22 ad s.heap.size) s.heap s.heap [] := va_S.rf
  have hl : lv_has ls 4 [(0, .ref (ad 0)), (1, .int x1), (2, .int x2), (3, .int x3)] := hl
  refine lv_aload_n S.1 S.2.1 d_M_palette_0 rfl (lv_at hl 0 rfl) ?_
  refine lv_iconst (v := 0) S.1 S.2.1 d_M_palette_1 (by decide) ?_
  refine ur_put (k := 0) (v := .int 0) (g' := mG ca ad (up2 w 0 0 0)) S hK hP (uD _ hJ) hS (by decide) mg_obj rfl (fun w h => hU w (in_M w h)) ty_M tyk_M nm_M 0 (by decide) (hU _ t3_160) rfl rfl rfl (Nat.le_of_ble_eq_true rfl) ms_thr d_M_palette_2 (fun H locs hP hS => ?_)
  refine lv_iload_n S.1 S.2.1 d_M_palette_5 rfl (lv_at hl 1 rfl) ?_
  refine lv_if_lt (tgt := 34) S.1 S.2.1 d_M_palette_6 (by decide) (fun c_a => ?_) (fun c_a => ?_)
  · refine lv_iconst (v := 0) S.1 S.2.1 d_M_palette_34 (by decide) ?_
    exact uZret S hr hlk rfl (up2 w 0 0 0) hP hS (by rw [if_neg (fun z => z.1 c_a)]; exact ⟨rfl, rfl⟩) d_M_palette_35
  · refine lv_iload_n S.1 S.2.1 d_M_palette_9 rfl (lv_at hl 1 rfl) ?_
    refine lv_bipush (v := 15) S.1 S.2.1 d_M_palette_10 (by decide) ?_
    refine lv_icmp_gt (tgt := 34) S.1 S.2.1 d_M_palette_12 (by decide) (fun c_b => ?_) (fun c_b => ?_)
    · refine lv_iconst (v := 0) S.1 S.2.1 d_M_palette_34 (by decide) ?_
      exact uZret S hr hlk rfl (up2 w 0 0 0) hP hS (by rw [if_neg (fun z => z.2.1 c_b)]; exact ⟨rfl, rfl⟩) d_M_palette_35
    · refine lv_iload_n S.1 S.2.1 d_M_palette_15 rfl (lv_at hl 2 rfl) ?_
      refine uSi (n := 1) (As := [.int x2]) (rest := []) S hK hN hP hS (c_M_isChannel hJ (up2 w 0 0 0) x2) ⟨hU, t4_4, t4_2, t1_8, by decide +kernel, by decide, by decide⟩ t4_3 rfl hl.1 rfl (Nat.le_of_ble_eq_true rfl) d_M_palette_16 ⟨Nat.le_of_ble_eq_true rfl, Nat.le_of_ble_eq_true rfl⟩ (fun r u H locs hp hP hS => ?_)
      obtain ⟨hu, rfl⟩ := hp
      rw [hu] at hP
      refine lv_if_eq (tgt := 34) S.1 S.2.1 d_M_palette_19 (by decide) (fun c_c => ?_) (fun c_c => ?_)
      · have c_c := pI_no c_c
        refine lv_iconst (v := 0) S.1 S.2.1 d_M_palette_34 (by decide) ?_
        exact uZret S hr hlk rfl (up2 w 0 0 0) hP hS (by rw [if_neg (fun z => c_c z.2.2.1)]; exact ⟨rfl, rfl⟩) d_M_palette_35
      · have c_c := pI_yes c_c
        obtain ⟨q, hq, eq⟩ := isPal_nat (c := x1) ⟨c_a, fun z => c_b (Int32.lt_of_lt_of_le (by decide) z)⟩
        subst eq
        obtain ⟨ch, hch, ech⟩ := isCh_nat c_c
        subst ech
        refine lv_iload_n S.1 S.2.1 d_M_palette_22 rfl (lv_at hl 3 rfl) ?_
        refine lv_iconst (v := (-1)) S.1 S.2.1 d_M_palette_23 (by decide) ?_
        refine lv_icmp_eq (tgt := 36) S.1 S.2.1 d_M_palette_24 (by decide) (fun c_n => ?_) (fun c_n => ?_)
        · refine lv_aload_n S.1 S.2.1 d_M_palette_36 rfl (lv_at hl 0 rfl) ?_
          refine ur_get (k := 0) (v := .ref (ad 3)) S hK hP (by decide) mg_obj rfl (fun w h => hU w (in_M w h)) 3 (by decide) (hU _ t3_163) rfl d_M_palette_37 ?_
          refine lv_bipush (v := 64) S.1 S.2.1 d_M_palette_40 (by decide) ?_
          refine lv_iload_n S.1 S.2.1 d_M_palette_42 rfl (lv_at hl 1 rfl) ?_
          refine lv_imul S.1 S.2.1 d_M_palette_43 ?_
          refine lv_iload_n S.1 S.2.1 d_M_palette_44 rfl (lv_at hl 2 rfl) ?_
          refine lv_iadd S.1 S.2.1 d_M_palette_45 ?_
          refine lv_iload_n S.1 S.2.1 d_M_palette_46 rfl (lv_at hl 3 rfl) ?_
          refine lv_i2s (v := s16 x3) S.1 S.2.1 d_M_palette_47 rfl ?_
          refine ur_sast (k := 3) (n := 1024) (f := ((up2 w 0 0 0) 3)) (j := (64 * q + ch)) (g' := mG ca ad (up2 (up2 w 0 0 0) 3 (64 * q + ch) (s16 x3))) S hK hP (uD _ hJ) hS (by decide) 4 (mg_arr 3 (by decide)) rfl (ix64 q ch) (by omega) (by decide) (s16_nar _) (ms_arr 3 (by decide) (by decide) (by decide)) d_M_palette_48 (fun H locs hP hS => ?_)
          refine lv_iconst (v := 1) S.1 S.2.1 d_M_palette_49 (by decide) ?_
          exact uZret S hr hlk rfl (up2 (up2 w 0 0 0) 3 (64 * q + ch) (s16 x3)) hP hS (by rw [if_pos ⟨c_a, c_b, c_c, Or.inl c_n⟩, nI_clamp (by omega), nI_clamp (by omega)]; exact ⟨rfl, rfl⟩) d_M_palette_50
        · refine lv_iload_n S.1 S.2.1 d_M_palette_27 rfl (lv_at hl 3 rfl) ?_
          refine uSi (n := 1) (As := [.int x3]) (rest := []) S hK hN hP hS (c_M_isLevel hJ (up2 w 0 0 0) x3) ⟨hU, t4_11, t4_9, t1_8, by decide +kernel, by decide, by decide⟩ t4_10 rfl hl.1 rfl (Nat.le_of_ble_eq_true rfl) d_M_palette_28 ⟨Nat.le_of_ble_eq_true rfl, Nat.le_of_ble_eq_true rfl⟩ (fun r u H locs hp hP hS => ?_)
          obtain ⟨hu, rfl⟩ := hp
          rw [hu] at hP
          refine lv_if_ne (tgt := 36) S.1 S.2.1 d_M_palette_31 (by decide) (fun c_l => ?_) (fun c_l => ?_)
          · have c_l := pI_yes c_l
            refine lv_aload_n S.1 S.2.1 d_M_palette_36 rfl (lv_at hl 0 rfl) ?_
            refine ur_get (k := 0) (v := .ref (ad 3)) S hK hP (by decide) mg_obj rfl (fun w h => hU w (in_M w h)) 3 (by decide) (hU _ t3_163) rfl d_M_palette_37 ?_
            refine lv_bipush (v := 64) S.1 S.2.1 d_M_palette_40 (by decide) ?_
            refine lv_iload_n S.1 S.2.1 d_M_palette_42 rfl (lv_at hl 1 rfl) ?_
            refine lv_imul S.1 S.2.1 d_M_palette_43 ?_
            refine lv_iload_n S.1 S.2.1 d_M_palette_44 rfl (lv_at hl 2 rfl) ?_
            refine lv_iadd S.1 S.2.1 d_M_palette_45 ?_
            refine lv_iload_n S.1 S.2.1 d_M_palette_46 rfl (lv_at hl 3 rfl) ?_
            refine lv_i2s (v := s16 x3) S.1 S.2.1 d_M_palette_47 rfl ?_
            refine ur_sast (k := 3) (n := 1024) (f := ((up2 w 0 0 0) 3)) (j := (64 * q + ch)) (g' := mG ca ad (up2 (up2 w 0 0 0) 3 (64 * q + ch) (s16 x3))) S hK hP (uD _ hJ) hS (by decide) 4 (mg_arr 3 (by decide)) rfl (ix64 q ch) (by omega) (by decide) (s16_nar _) (ms_arr 3 (by decide) (by decide) (by decide)) d_M_palette_48 (fun H locs hP hS => ?_)
            refine lv_iconst (v := 1) S.1 S.2.1 d_M_palette_49 (by decide) ?_
            exact uZret S hr hlk rfl (up2 (up2 w 0 0 0) 3 (64 * q + ch) (s16 x3)) hP hS (by rw [if_pos ⟨c_a, c_b, c_c, Or.inr c_l⟩, nI_clamp (by omega), nI_clamp (by omega)]; exact ⟨rfl, rfl⟩) d_M_palette_50
          · have c_l := pI_no c_l
            refine lv_iconst (v := 0) S.1 S.2.1 d_M_palette_34 (by decide) ?_
            exact uZret S hr hlk rfl (up2 w 0 0 0) hP hS (by rw [if_neg (fun z => z.2.2.2.elim c_n c_l)]; exact ⟨rfl, rfl⟩) d_M_palette_35

set_option maxRecDepth 100000 in
set_option maxHeartbeats 4000000 in
theorem c_M_times {l : Launch} {D : va_G} {ca : Nat → ClassId} {ad : Nat → Nat} (hJ : uJ 22 ad) (w : Nat → Nat → Int32) (F : Nat) (hF : F = 40) (a b x3 x4 : Int32) : uMi l y_M_times b_M_times 6 (some .boolean) 1 24 D clsAll (tysAll ca) 22 ad (mG ca ad) w [.ref (ad 0), .int a, .int b, .int x3, .int x4] (fun r u => match mFnd (up2 w 0 0 0) a b F with | none => u = (up2 w 0 0 0) ∧ r = 0 | some q => if isTm x3 ∧ isTm x4 then u = up2 (up2 (up2 w 0 0 0) 6 q x3) 7 q x4 ∧ r = 1 else u = (up2 w 0 0 0) ∧ r = 0) := by
  refine uStart (by decide) (Nat.le_of_ble_eq_true rfl) ?_
  intro p e s m below meth c ls S hr hlk hK hN hP hl
  have hU : ∀ w ∈ uWS, w ∈ (Cond.code y_M_times b_M_times 6 (some .boolean) :: uWS) := fun w h => List.mem_cons_of_mem _ h
  have hS : va_S (uA 22 ad s.heap.size) s.heap s.heap [] := va_S.rf
  have hl : lv_has ls 6 [(0, .ref (ad 0)), (1, .int a), (2, .int b), (3, .int x3), (4, .int x4)] := hl
  refine lv_aload_n S.1 S.2.1 d_M_times_0 rfl (lv_at hl 0 rfl) ?_
  refine lv_iconst (v := 0) S.1 S.2.1 d_M_times_1 (by decide) ?_
  refine ur_put (k := 0) (v := .int 0) (g' := mG ca ad (up2 w 0 0 0)) S hK hP (uD _ hJ) hS (by decide) mg_obj rfl (fun w h => hU w (in_M w h)) ty_M tyk_M nm_M 0 (by decide) (hU _ t3_160) rfl rfl rfl (Nat.le_of_ble_eq_true rfl) ms_thr d_M_times_2 (fun H locs hP hS => ?_)
  refine lv_aload_n S.1 S.2.1 d_M_times_5 rfl (lv_at hl 0 rfl) ?_
  refine lv_iload_n S.1 S.2.1 d_M_times_6 rfl (lv_at hl 1 rfl) ?_
  refine lv_iload_n S.1 S.2.1 d_M_times_7 rfl (lv_at hl 2 rfl) ?_
  refine uVi (n := 2) (b := 0) (As := [.int a, .int b]) (rest := []) S hK hN hP hS (c_M_find hJ (up2 w 0 0 0) F hF a b) ⟨hU, t4_31, t4_28, t1_8, by decide +kernel, by decide, by decide⟩ t4_30 tp_15 (by decide) mg_obj rfl rfl rfl hl.1 rfl (Nat.le_of_ble_eq_true rfl) d_M_times_8 ⟨Nat.le_of_ble_eq_true rfl, Nat.le_of_ble_eq_true rfl⟩ (fun r u H locs hp hP hS => ?_)
  obtain ⟨hu, rfl⟩ := hp
  rw [hu] at hP
  rcases hX_1 : mFnd (up2 w 0 0 0) a b F with _ | p_2
  · refine lv_istore (lv' := [(5, .int (-1)), (0, .ref (ad 0)), (1, .int a), (2, .int b), (3, .int x3), (4, .int x4)]) S.1 S.2.1 d_M_times_11 hl (by decide) rfl (fun ls hl => ?_)
    refine lv_iload S.1 S.2.1 d_M_times_13 (lv_at hl 0 rfl) ?_
    refine lv_if_lt (tgt := 33) S.1 S.2.1 d_M_times_15 (by decide) (fun c_3 => ?_) (fun c_3 => ?_)
    · refine lv_iconst (v := 0) S.1 S.2.1 d_M_times_33 (by decide) ?_
      exact uZret S hr hlk rfl (up2 w 0 0 0) hP hS (by (try rw [hX_1]); exact ⟨rfl, rfl⟩) d_M_times_34
    · exact absurd (by decide) c_3
  · have hp_2 := mFnd_lt _ _ hX_1
    refine lv_istore (lv' := [(5, .int (nI p_2)), (0, .ref (ad 0)), (1, .int a), (2, .int b), (3, .int x3), (4, .int x4)]) S.1 S.2.1 d_M_times_11 hl (by decide) rfl (fun ls hl => ?_)
    refine lv_iload S.1 S.2.1 d_M_times_13 (lv_at hl 0 rfl) ?_
    refine lv_if_lt (tgt := 33) S.1 S.2.1 d_M_times_15 (by decide) (fun c_4 => ?_) (fun c_4 => ?_)
    · exact absurd c_4 (nI_pos (by omega))
    · refine lv_iload_n S.1 S.2.1 d_M_times_18 rfl (lv_at hl 4 rfl) ?_
      refine uSi (n := 1) (As := [.int x3]) (rest := []) S hK hN hP hS (c_M_isTime hJ (up2 w 0 0 0) x3) ⟨hU, t4_106, t4_104, t1_8, by decide +kernel, by decide, by decide⟩ t4_105 rfl hl.1 rfl (Nat.le_of_ble_eq_true rfl) d_M_times_19 ⟨Nat.le_of_ble_eq_true rfl, Nat.le_of_ble_eq_true rfl⟩ (fun r u H locs hp hP hS => ?_)
      obtain ⟨hu, rfl⟩ := hp
      rw [hu] at hP
      refine lv_if_eq (tgt := 33) S.1 S.2.1 d_M_times_22 (by decide) (fun c_t => ?_) (fun c_t => ?_)
      · have c_t := pI_no c_t
        refine lv_iconst (v := 0) S.1 S.2.1 d_M_times_33 (by decide) ?_
        exact uZret S hr hlk rfl (up2 w 0 0 0) hP hS (by (try rw [hX_1]); show ite _ _ _; rw [if_neg (fun z => c_t z.1)]; exact ⟨rfl, rfl⟩) d_M_times_34
      · have c_t := pI_yes c_t
        refine lv_iload S.1 S.2.1 d_M_times_25 (lv_at hl 5 rfl) ?_
        refine uSi (n := 1) (As := [.int x4]) (rest := []) S hK hN hP hS (c_M_isTime hJ (up2 w 0 0 0) x4) ⟨hU, t4_106, t4_104, t1_8, by decide +kernel, by decide, by decide⟩ t4_105 rfl hl.1 rfl (Nat.le_of_ble_eq_true rfl) d_M_times_27 ⟨Nat.le_of_ble_eq_true rfl, Nat.le_of_ble_eq_true rfl⟩ (fun r u H locs hp hP hS => ?_)
        obtain ⟨hu, rfl⟩ := hp
        rw [hu] at hP
        refine lv_if_ne (tgt := 35) S.1 S.2.1 d_M_times_30 (by decide) (fun c_u => ?_) (fun c_u => ?_)
        · have c_u := pI_yes c_u
          refine lv_aload_n S.1 S.2.1 d_M_times_35 rfl (lv_at hl 1 rfl) ?_
          refine ur_get (k := 0) (v := .ref (ad 6)) S hK hP (by decide) mg_obj rfl (fun w h => hU w (in_M w h)) 6 (by decide) (hU _ t3_166) rfl d_M_times_36 ?_
          refine lv_iload S.1 S.2.1 d_M_times_39 (lv_at hl 0 rfl) ?_
          refine lv_iload_n S.1 S.2.1 d_M_times_41 rfl (lv_at hl 4 rfl) ?_
          refine ur_iast (k := 6) (n := 40) (f := ((up2 w 0 0 0) 6)) (j := p_2) (g' := mG ca ad (up2 (up2 w 0 0 0) 6 p_2 x3)) S hK hP (uD _ hJ) hS (by decide) 0 (mg_arr 6 (by decide)) rfl rfl (by omega) (by decide) (ms_arr 6 (by decide) (by decide) (by decide)) d_M_times_42 (fun H locs hP hS => ?_)
          refine lv_aload_n S.1 S.2.1 d_M_times_43 rfl (lv_at hl 1 rfl) ?_
          refine ur_get (k := 0) (v := .ref (ad 7)) S hK hP (by decide) mg_obj rfl (fun w h => hU w (in_M w h)) 7 (by decide) (hU _ t3_167) rfl d_M_times_44 ?_
          refine lv_iload S.1 S.2.1 d_M_times_47 (lv_at hl 0 rfl) ?_
          refine lv_iload S.1 S.2.1 d_M_times_49 (lv_at hl 5 rfl) ?_
          refine ur_iast (k := 7) (n := 40) (f := ((up2 (up2 w 0 0 0) 6 p_2 x3) 7)) (j := p_2) (g' := mG ca ad (up2 (up2 (up2 w 0 0 0) 6 p_2 x3) 7 p_2 x4)) S hK hP (uD _ hJ) hS (by decide) 0 (mg_arr 7 (by decide)) rfl rfl (by omega) (by decide) (ms_arr 7 (by decide) (by decide) (by decide)) d_M_times_51 (fun H locs hP hS => ?_)
          refine lv_iconst (v := 1) S.1 S.2.1 d_M_times_52 (by decide) ?_
          exact uZret S hr hlk rfl (up2 (up2 (up2 w 0 0 0) 6 p_2 x3) 7 p_2 x4) hP hS (by (try rw [hX_1]); show ite _ _ _; rw [if_pos ⟨c_t, c_u⟩]; exact ⟨rfl, rfl⟩) d_M_times_53
        · have c_u := pI_no c_u
          refine lv_iconst (v := 0) S.1 S.2.1 d_M_times_33 (by decide) ?_
          exact uZret S hr hlk rfl (up2 w 0 0 0) hP hS (by (try rw [hX_1]); show ite _ _ _; rw [if_neg (fun z => c_u z.2)]; exact ⟨rfl, rfl⟩) d_M_times_34

set_option maxRecDepth 100000 in
set_option maxHeartbeats 4000000 in
theorem c_M_delays {l : Launch} {D : va_G} {ca : Nat → ClassId} {ad : Nat → Nat} (hJ : uJ 22 ad) (w : Nat → Nat → Int32) (F : Nat) (hF : F = 40) (a b x3 x4 : Int32) : uMi l y_M_delays b_M_delays 6 (some .boolean) 1 24 D clsAll (tysAll ca) 22 ad (mG ca ad) w [.ref (ad 0), .int a, .int b, .int x3, .int x4] (fun r u => match mFnd (up2 w 0 0 0) a b F with | none => u = (up2 w 0 0 0) ∧ r = 0 | some q => if isTm x3 ∧ (x4 = -1 ∨ isTm x4) then u = up2 (up2 (up2 w 0 0 0) 8 q x3) 9 q x4 ∧ r = 1 else u = (up2 w 0 0 0) ∧ r = 0) := by
  refine uStart (by decide) (Nat.le_of_ble_eq_true rfl) ?_
  intro p e s m below meth c ls S hr hlk hK hN hP hl
  have hU : ∀ w ∈ uWS, w ∈ (Cond.code y_M_delays b_M_delays 6 (some .boolean) :: uWS) := fun w h => List.mem_cons_of_mem _ h
  have hS : va_S (uA 22 ad s.heap.size) s.heap s.heap [] := va_S.rf
  have hl : lv_has ls 6 [(0, .ref (ad 0)), (1, .int a), (2, .int b), (3, .int x3), (4, .int x4)] := hl
  refine lv_aload_n S.1 S.2.1 d_M_delays_0 rfl (lv_at hl 0 rfl) ?_
  refine lv_iconst (v := 0) S.1 S.2.1 d_M_delays_1 (by decide) ?_
  refine ur_put (k := 0) (v := .int 0) (g' := mG ca ad (up2 w 0 0 0)) S hK hP (uD _ hJ) hS (by decide) mg_obj rfl (fun w h => hU w (in_M w h)) ty_M tyk_M nm_M 0 (by decide) (hU _ t3_160) rfl rfl rfl (Nat.le_of_ble_eq_true rfl) ms_thr d_M_delays_2 (fun H locs hP hS => ?_)
  refine lv_aload_n S.1 S.2.1 d_M_delays_5 rfl (lv_at hl 0 rfl) ?_
  refine lv_iload_n S.1 S.2.1 d_M_delays_6 rfl (lv_at hl 1 rfl) ?_
  refine lv_iload_n S.1 S.2.1 d_M_delays_7 rfl (lv_at hl 2 rfl) ?_
  refine uVi (n := 2) (b := 0) (As := [.int a, .int b]) (rest := []) S hK hN hP hS (c_M_find hJ (up2 w 0 0 0) F hF a b) ⟨hU, t4_31, t4_28, t1_8, by decide +kernel, by decide, by decide⟩ t4_30 tp_15 (by decide) mg_obj rfl rfl rfl hl.1 rfl (Nat.le_of_ble_eq_true rfl) d_M_delays_8 ⟨Nat.le_of_ble_eq_true rfl, Nat.le_of_ble_eq_true rfl⟩ (fun r u H locs hp hP hS => ?_)
  obtain ⟨hu, rfl⟩ := hp
  rw [hu] at hP
  rcases hX_1 : mFnd (up2 w 0 0 0) a b F with _ | p_2
  · refine lv_istore (lv' := [(5, .int (-1)), (0, .ref (ad 0)), (1, .int a), (2, .int b), (3, .int x3), (4, .int x4)]) S.1 S.2.1 d_M_delays_11 hl (by decide) rfl (fun ls hl => ?_)
    refine lv_iload S.1 S.2.1 d_M_delays_13 (lv_at hl 0 rfl) ?_
    refine lv_if_lt (tgt := 39) S.1 S.2.1 d_M_delays_15 (by decide) (fun c_3 => ?_) (fun c_3 => ?_)
    · refine lv_iconst (v := 0) S.1 S.2.1 d_M_delays_39 (by decide) ?_
      exact uZret S hr hlk rfl (up2 w 0 0 0) hP hS (by (try rw [hX_1]); exact ⟨rfl, rfl⟩) d_M_delays_40
    · exact absurd (by decide) c_3
  · have hp_2 := mFnd_lt _ _ hX_1
    refine lv_istore (lv' := [(5, .int (nI p_2)), (0, .ref (ad 0)), (1, .int a), (2, .int b), (3, .int x3), (4, .int x4)]) S.1 S.2.1 d_M_delays_11 hl (by decide) rfl (fun ls hl => ?_)
    refine lv_iload S.1 S.2.1 d_M_delays_13 (lv_at hl 0 rfl) ?_
    refine lv_if_lt (tgt := 39) S.1 S.2.1 d_M_delays_15 (by decide) (fun c_4 => ?_) (fun c_4 => ?_)
    · exact absurd c_4 (nI_pos (by omega))
    · refine lv_iload_n S.1 S.2.1 d_M_delays_18 rfl (lv_at hl 4 rfl) ?_
      refine uSi (n := 1) (As := [.int x3]) (rest := []) S hK hN hP hS (c_M_isTime hJ (up2 w 0 0 0) x3) ⟨hU, t4_106, t4_104, t1_8, by decide +kernel, by decide, by decide⟩ t4_105 rfl hl.1 rfl (Nat.le_of_ble_eq_true rfl) d_M_delays_19 ⟨Nat.le_of_ble_eq_true rfl, Nat.le_of_ble_eq_true rfl⟩ (fun r u H locs hp hP hS => ?_)
      obtain ⟨hu, rfl⟩ := hp
      rw [hu] at hP
      refine lv_if_eq (tgt := 39) S.1 S.2.1 d_M_delays_22 (by decide) (fun c_t => ?_) (fun c_t => ?_)
      · have c_t := pI_no c_t
        refine lv_iconst (v := 0) S.1 S.2.1 d_M_delays_39 (by decide) ?_
        exact uZret S hr hlk rfl (up2 w 0 0 0) hP hS (by (try rw [hX_1]); show ite _ _ _; rw [if_neg (fun z => c_t z.1)]; exact ⟨rfl, rfl⟩) d_M_delays_40
      · have c_t := pI_yes c_t
        refine lv_iload S.1 S.2.1 d_M_delays_25 (lv_at hl 5 rfl) ?_
        refine lv_iconst (v := (-1)) S.1 S.2.1 d_M_delays_27 (by decide) ?_
        refine lv_icmp_eq (tgt := 41) S.1 S.2.1 d_M_delays_28 (by decide) (fun c_n => ?_) (fun c_n => ?_)
        · refine lv_aload_n S.1 S.2.1 d_M_delays_41 rfl (lv_at hl 1 rfl) ?_
          refine ur_get (k := 0) (v := .ref (ad 8)) S hK hP (by decide) mg_obj rfl (fun w h => hU w (in_M w h)) 8 (by decide) (hU _ t3_168) rfl d_M_delays_42 ?_
          refine lv_iload S.1 S.2.1 d_M_delays_45 (lv_at hl 0 rfl) ?_
          refine lv_iload_n S.1 S.2.1 d_M_delays_47 rfl (lv_at hl 4 rfl) ?_
          refine ur_iast (k := 8) (n := 40) (f := ((up2 w 0 0 0) 8)) (j := p_2) (g' := mG ca ad (up2 (up2 w 0 0 0) 8 p_2 x3)) S hK hP (uD _ hJ) hS (by decide) 0 (mg_arr 8 (by decide)) rfl rfl (by omega) (by decide) (ms_arr 8 (by decide) (by decide) (by decide)) d_M_delays_48 (fun H locs hP hS => ?_)
          refine lv_aload_n S.1 S.2.1 d_M_delays_49 rfl (lv_at hl 1 rfl) ?_
          refine ur_get (k := 0) (v := .ref (ad 9)) S hK hP (by decide) mg_obj rfl (fun w h => hU w (in_M w h)) 9 (by decide) (hU _ t3_169) rfl d_M_delays_50 ?_
          refine lv_iload S.1 S.2.1 d_M_delays_53 (lv_at hl 0 rfl) ?_
          refine lv_iload S.1 S.2.1 d_M_delays_55 (lv_at hl 5 rfl) ?_
          refine ur_iast (k := 9) (n := 40) (f := ((up2 (up2 w 0 0 0) 8 p_2 x3) 9)) (j := p_2) (g' := mG ca ad (up2 (up2 (up2 w 0 0 0) 8 p_2 x3) 9 p_2 x4)) S hK hP (uD _ hJ) hS (by decide) 0 (mg_arr 9 (by decide)) rfl rfl (by omega) (by decide) (ms_arr 9 (by decide) (by decide) (by decide)) d_M_delays_57 (fun H locs hP hS => ?_)
          refine lv_iconst (v := 1) S.1 S.2.1 d_M_delays_58 (by decide) ?_
          exact uZret S hr hlk rfl (up2 (up2 (up2 w 0 0 0) 8 p_2 x3) 9 p_2 x4) hP hS (by (try rw [hX_1]); show ite _ _ _; rw [if_pos ⟨c_t, Or.inl c_n⟩]; exact ⟨rfl, rfl⟩) d_M_delays_59
        · refine lv_iload S.1 S.2.1 d_M_delays_31 (lv_at hl 5 rfl) ?_
          refine uSi (n := 1) (As := [.int x4]) (rest := []) S hK hN hP hS (c_M_isTime hJ (up2 w 0 0 0) x4) ⟨hU, t4_106, t4_104, t1_8, by decide +kernel, by decide, by decide⟩ t4_105 rfl hl.1 rfl (Nat.le_of_ble_eq_true rfl) d_M_delays_33 ⟨Nat.le_of_ble_eq_true rfl, Nat.le_of_ble_eq_true rfl⟩ (fun r u H locs hp hP hS => ?_)
          obtain ⟨hu, rfl⟩ := hp
          rw [hu] at hP
          refine lv_if_ne (tgt := 41) S.1 S.2.1 d_M_delays_36 (by decide) (fun c_u => ?_) (fun c_u => ?_)
          · have c_u := pI_yes c_u
            refine lv_aload_n S.1 S.2.1 d_M_delays_41 rfl (lv_at hl 1 rfl) ?_
            refine ur_get (k := 0) (v := .ref (ad 8)) S hK hP (by decide) mg_obj rfl (fun w h => hU w (in_M w h)) 8 (by decide) (hU _ t3_168) rfl d_M_delays_42 ?_
            refine lv_iload S.1 S.2.1 d_M_delays_45 (lv_at hl 0 rfl) ?_
            refine lv_iload_n S.1 S.2.1 d_M_delays_47 rfl (lv_at hl 4 rfl) ?_
            refine ur_iast (k := 8) (n := 40) (f := ((up2 w 0 0 0) 8)) (j := p_2) (g' := mG ca ad (up2 (up2 w 0 0 0) 8 p_2 x3)) S hK hP (uD _ hJ) hS (by decide) 0 (mg_arr 8 (by decide)) rfl rfl (by omega) (by decide) (ms_arr 8 (by decide) (by decide) (by decide)) d_M_delays_48 (fun H locs hP hS => ?_)
            refine lv_aload_n S.1 S.2.1 d_M_delays_49 rfl (lv_at hl 1 rfl) ?_
            refine ur_get (k := 0) (v := .ref (ad 9)) S hK hP (by decide) mg_obj rfl (fun w h => hU w (in_M w h)) 9 (by decide) (hU _ t3_169) rfl d_M_delays_50 ?_
            refine lv_iload S.1 S.2.1 d_M_delays_53 (lv_at hl 0 rfl) ?_
            refine lv_iload S.1 S.2.1 d_M_delays_55 (lv_at hl 5 rfl) ?_
            refine ur_iast (k := 9) (n := 40) (f := ((up2 (up2 w 0 0 0) 8 p_2 x3) 9)) (j := p_2) (g' := mG ca ad (up2 (up2 (up2 w 0 0 0) 8 p_2 x3) 9 p_2 x4)) S hK hP (uD _ hJ) hS (by decide) 0 (mg_arr 9 (by decide)) rfl rfl (by omega) (by decide) (ms_arr 9 (by decide) (by decide) (by decide)) d_M_delays_57 (fun H locs hP hS => ?_)
            refine lv_iconst (v := 1) S.1 S.2.1 d_M_delays_58 (by decide) ?_
            exact uZret S hr hlk rfl (up2 (up2 (up2 w 0 0 0) 8 p_2 x3) 9 p_2 x4) hP hS (by (try rw [hX_1]); show ite _ _ _; rw [if_pos ⟨c_t, Or.inr c_u⟩]; exact ⟨rfl, rfl⟩) d_M_delays_59
          · have c_u := pI_no c_u
            refine lv_iconst (v := 0) S.1 S.2.1 d_M_delays_39 (by decide) ?_
            exact uZret S hr hlk rfl (up2 w 0 0 0) hP hS (by (try rw [hX_1]); show ite _ _ _; rw [if_neg (fun z => z.2.elim c_n c_u)]; exact ⟨rfl, rfl⟩) d_M_delays_40

set_option maxRecDepth 100000 in
set_option maxHeartbeats 4000000 in
theorem c_M_has {l : Launch} {D : va_G} {ca : Nat → ClassId} {ad : Nat → Nat} (hJ : uJ 22 ad) (w : Nat → Nat → Int32) (F : Nat) (hF : F = 40) (a b : Int32) : uMi l y_M_has b_M_has 3 (some .boolean) 1 24 D clsAll (tysAll ca) 22 ad (mG ca ad) w [.ref (ad 0), .int a, .int b] (fun r u => u = (up2 w 0 0 (if mFnd w a b F = none then 1 else 0)) ∧ r = pI (¬ mFnd w a b F = none)) := by
  refine uStart (by decide) (Nat.le_of_ble_eq_true rfl) ?_
  intro p e s m below meth c ls S hr hlk hK hN hP hl
  have hU : ∀ w ∈ uWS, w ∈ (Cond.code y_M_has b_M_has 3 (some .boolean) :: uWS) := fun w h => List.mem_cons_of_mem _ h
  have hS : va_S (uA 22 ad s.heap.size) s.heap s.heap [] := va_S.rf
  have hl : lv_has ls 3 [(0, .ref (ad 0)), (1, .int a), (2, .int b)] := hl
  refine lv_aload_n S.1 S.2.1 d_M_has_0 rfl (lv_at hl 0 rfl) ?_
  refine lv_aload_n S.1 S.2.1 d_M_has_1 rfl (lv_at hl 0 rfl) ?_
  refine lv_iload_n S.1 S.2.1 d_M_has_2 rfl (lv_at hl 1 rfl) ?_
  refine lv_iload_n S.1 S.2.1 d_M_has_3 rfl (lv_at hl 2 rfl) ?_
  refine uVi (n := 2) (b := 0) (As := [.int a, .int b]) (rest := [.ref (ad 0)]) S hK hN hP hS (c_M_find hJ w F hF a b) ⟨hU, t4_31, t4_28, t1_8, by decide +kernel, by decide, by decide⟩ t4_30 tp_15 (by decide) mg_obj rfl rfl rfl hl.1 rfl (Nat.le_of_ble_eq_true rfl) d_M_has_4 ⟨Nat.le_of_ble_eq_true rfl, Nat.le_of_ble_eq_true rfl⟩ (fun r u H locs hp hP hS => ?_)
  obtain ⟨hu, rfl⟩ := hp
  rw [hu] at hP
  rcases hX_1 : mFnd w a b F with _ | p_2
  · refine lv_if_ge (tgt := 14) S.1 S.2.1 d_M_has_7 (by decide) (fun c_3 => ?_) (fun c_3 => ?_)
    · exact absurd c_3 (by decide)
    · refine lv_iconst (v := 1) S.1 S.2.1 d_M_has_10 (by decide) ?_
      refine lv_goto (tgt := 15) S.1 S.2.1 d_M_has_11 (by decide) ?_
      refine ur_put (k := 0) (v := .int 1) (g' := mG ca ad (up2 w 0 0 1)) S hK hP (uD _ hJ) hS (by decide) mg_obj rfl (fun w h => hU w (in_M w h)) ty_M tyk_M nm_M 0 (by decide) (hU _ t3_160) rfl rfl rfl (Nat.le_of_ble_eq_true rfl) ms_thr d_M_has_15 (fun H locs hP hS => ?_)
      refine lv_aload_n S.1 S.2.1 d_M_has_18 rfl (lv_at hl 0 rfl) ?_
      refine ur_get (k := 0) (v := .int ((up2 w 0 0 1) 0 0)) S hK hP (by decide) mg_obj rfl (fun w h => hU w (in_M w h)) 0 (by decide) (hU _ t3_160) rfl d_M_has_19 ?_
      rw [up2_s]
      refine lv_if_ne (tgt := 29) S.1 S.2.1 d_M_has_22 (by decide) (fun c_4 => ?_) (fun c_4 => ?_)
      · refine lv_iconst (v := 0) S.1 S.2.1 d_M_has_29 (by decide) ?_
        exact uZret S hr hlk rfl (up2 w 0 0 1) hP hS (by (try rw [hX_1]); simp [pI]) d_M_has_30
      · exact absurd c_4 (by decide)
  · have hp_2 := mFnd_lt _ _ hX_1
    refine lv_if_ge (tgt := 14) S.1 S.2.1 d_M_has_7 (by decide) (fun c_5 => ?_) (fun c_5 => ?_)
    · refine lv_iconst (v := 0) S.1 S.2.1 d_M_has_14 (by decide) ?_
      refine ur_put (k := 0) (v := .int 0) (g' := mG ca ad (up2 w 0 0 0)) S hK hP (uD _ hJ) hS (by decide) mg_obj rfl (fun w h => hU w (in_M w h)) ty_M tyk_M nm_M 0 (by decide) (hU _ t3_160) rfl rfl rfl (Nat.le_of_ble_eq_true rfl) ms_thr d_M_has_15 (fun H locs hP hS => ?_)
      refine lv_aload_n S.1 S.2.1 d_M_has_18 rfl (lv_at hl 0 rfl) ?_
      refine ur_get (k := 0) (v := .int ((up2 w 0 0 0) 0 0)) S hK hP (by decide) mg_obj rfl (fun w h => hU w (in_M w h)) 0 (by decide) (hU _ t3_160) rfl d_M_has_19 ?_
      rw [up2_s]
      refine lv_if_ne (tgt := 29) S.1 S.2.1 d_M_has_22 (by decide) (fun c_6 => ?_) (fun c_6 => ?_)
      · exact absurd rfl c_6
      · refine lv_iconst (v := 1) S.1 S.2.1 d_M_has_25 (by decide) ?_
        refine lv_goto (tgt := 30) S.1 S.2.1 d_M_has_26 (by decide) ?_
        exact uZret S hr hlk rfl (up2 w 0 0 0) hP hS (by (try rw [hX_1]); simp [pI]) d_M_has_30
    · exact absurd (nI_pos' (by omega)) c_5

set_option maxRecDepth 100000 in
set_option maxHeartbeats 4000000 in
theorem c_M_sourceOf {l : Launch} {D : va_G} {ca : Nat → ClassId} {ad : Nat → Nat} (hJ : uJ 22 ad) (w : Nat → Nat → Int32) (F : Nat) (hF : F = 40) (a b : Int32) (ch : Nat) (hch : ch < 64) : uMi l y_M_sourceOf b_M_sourceOf 5 (some .int) 1 24 D clsAll (tysAll ca) 22 ad (mG ca ad) w [.ref (ad 0), .int a, .int b, .int (nI ch)] (fun r u => u = w ∧ r = oI (mSrc w a b ch F)) := by
  refine uStart (by decide) (Nat.le_of_ble_eq_true rfl) ?_
  intro p e s m below meth c ls S hr hlk hK hN hP hl
  have hU : ∀ w ∈ uWS, w ∈ (Cond.code y_M_sourceOf b_M_sourceOf 5 (some .int) :: uWS) := fun w h => List.mem_cons_of_mem _ h
  have hS : va_S (uA 22 ad s.heap.size) s.heap s.heap [] := va_S.rf
  have hl : lv_has ls 5 [(0, .ref (ad 0)), (1, .int a), (2, .int b), (3, .int (nI ch))] := hl
  refine lv_aload_n S.1 S.2.1 d_M_sourceOf_0 rfl (lv_at hl 0 rfl) ?_
  refine lv_iload_n S.1 S.2.1 d_M_sourceOf_1 rfl (lv_at hl 1 rfl) ?_
  refine lv_iload_n S.1 S.2.1 d_M_sourceOf_2 rfl (lv_at hl 2 rfl) ?_
  refine lv_iconst (v := 1) S.1 S.2.1 d_M_sourceOf_3 (by decide) ?_
  refine lv_iadd S.1 S.2.1 d_M_sourceOf_4 ?_
  refine uVi (n := 2) (b := 0) (As := [.int a, .int (b + 1)]) (rest := []) S hK hN hP hS (c_M_below hJ w F hF a (b + 1)) ⟨hU, t4_71, t4_68, t1_8, by decide +kernel, by decide, by decide⟩ t4_70 tp_25 (by decide) mg_obj rfl rfl rfl hl.1 rfl (Nat.le_of_ble_eq_true rfl) d_M_sourceOf_5 ⟨Nat.le_of_ble_eq_true rfl, Nat.le_of_ble_eq_true rfl⟩ (fun r u H locs hp hP hS => ?_)
  obtain ⟨hu, rfl⟩ := hp
  rw [hu] at hP
  refine lv_istore (lv' := [(4, .int (oI (mBlw w a (b + 1) F))), (0, .ref (ad 0)), (1, .int a), (2, .int b), (3, .int (nI ch))]) S.1 S.2.1 d_M_sourceOf_8 hl (by decide) rfl (fun ls hl => ?_)
  have L : ∀ K : Nat, ∀ o : Option Nat, (mSrcL w a ch F K o = mSrc w a b ch F ∧ ∀ q, o = some q → q < F ∧ mK (w 5 q) < K) → ∀ (H : Heap) (locs : List Loc) (ls : Array Slot), va_P D clsAll (uw 22 ad (mG ca ad w)) H → va_S (uA 22 ad s.heap.size) s.heap H locs → lv_has ls 5 [(4, .int (oI o)), (0, .ref (ad 0)), (1, .int a), (2, .int b), (3, .int (nI ch))] → uGi 1 24 D clsAll 22 ad (mG ca ad) (fun r u => u = w ∧ r = oI (mSrc w a b ch F)) [.ref (ad 0), .int a, .int b, .int (nI ch)] p l e s m below meth c H locs 10 ls [] := by
    refine downTo ?_ ?_
    · intro o hI H locs ls hP hS hl
      refine lv_iload S.1 S.2.1 d_M_sourceOf_10 (lv_at hl 0 rfl) ?_
      rcases o with _ | p
      · refine lv_if_lt (tgt := 43) S.1 S.2.1 d_M_sourceOf_12 (by decide) (fun c_1 => ?_) (fun c_1 => ?_)
        · refine lv_iload S.1 S.2.1 d_M_sourceOf_43 (lv_at hl 0 rfl) ?_
          exact uIret S hr hlk w hP hS (⟨rfl, by rw [← hI.1, mSrcL_n]⟩) d_M_sourceOf_45
        · exact absurd (by decide) c_1
      · have hp := (hI.2 p rfl).1
        exact absurd (hI.2 p rfl).2 (Nat.not_lt_zero _)
    · intro K ih o hI H locs ls hP hS hl
      refine lv_iload S.1 S.2.1 d_M_sourceOf_10 (lv_at hl 0 rfl) ?_
      rcases o with _ | p
      · refine lv_if_lt (tgt := 43) S.1 S.2.1 d_M_sourceOf_12 (by decide) (fun c_2 => ?_) (fun c_2 => ?_)
        · refine lv_iload S.1 S.2.1 d_M_sourceOf_43 (lv_at hl 0 rfl) ?_
          exact uIret S hr hlk w hP hS (⟨rfl, by rw [← hI.1, mSrcL_n]⟩) d_M_sourceOf_45
        · exact absurd (by decide) c_2
      · have hp := (hI.2 p rfl).1
        refine lv_if_lt (tgt := 43) S.1 S.2.1 d_M_sourceOf_12 (by decide) (fun c_3 => ?_) (fun c_3 => ?_)
        · exact absurd c_3 (nI_pos (by omega))
        · refine lv_aload_n S.1 S.2.1 d_M_sourceOf_15 rfl (lv_at hl 1 rfl) ?_
          refine lv_iload S.1 S.2.1 d_M_sourceOf_16 (lv_at hl 0 rfl) ?_
          refine lv_iload_n S.1 S.2.1 d_M_sourceOf_18 rfl (lv_at hl 4 rfl) ?_
          refine uVi (n := 2) (b := 0) (As := [.int (nI p), .int (nI ch)]) (rest := []) S hK hN hP hS (c_M_moveOf hJ w p ch (by omega) hch) ⟨hU, t4_39, t4_36, t1_8, by decide +kernel, by decide, by decide⟩ t4_38 tp_17 (by decide) mg_obj rfl rfl rfl hl.1 rfl (Nat.le_of_ble_eq_true rfl) d_M_sourceOf_19 ⟨Nat.le_of_ble_eq_true rfl, Nat.le_of_ble_eq_true rfl⟩ (fun r u H locs hp hP hS => ?_)
          obtain ⟨hu, rfl⟩ := hp
          rw [hu] at hP
          refine lv_iconst (v := (-1)) S.1 S.2.1 d_M_sourceOf_22 (by decide) ?_
          refine lv_icmp_ne (tgt := 43) S.1 S.2.1 d_M_sourceOf_23 (by decide) (fun c_m => ?_) (fun c_m => ?_)
          · refine lv_iload S.1 S.2.1 d_M_sourceOf_43 (lv_at hl 0 rfl) ?_
            exact uIret S hr hlk w hP hS (⟨rfl, by rw [← hI.1, mSrcL, if_neg c_m]⟩) d_M_sourceOf_45
          · refine lv_aload_n S.1 S.2.1 d_M_sourceOf_26 rfl (lv_at hl 1 rfl) ?_
            refine lv_iload_n S.1 S.2.1 d_M_sourceOf_27 rfl (lv_at hl 2 rfl) ?_
            refine lv_aload_n S.1 S.2.1 d_M_sourceOf_28 rfl (lv_at hl 1 rfl) ?_
            refine ur_get (k := 0) (v := .ref (ad 5)) S hK hP (by decide) mg_obj rfl (fun w h => hU w (in_M w h)) 5 (by decide) (hU _ t3_165) rfl d_M_sourceOf_29 ?_
            refine lv_iload S.1 S.2.1 d_M_sourceOf_32 (lv_at hl 0 rfl) ?_
            refine ur_iald (k := 5) (n := 40) (f := (w 5)) (j := p) S hK hP (by decide) 0 (mg_arr 5 (by decide)) rfl rfl (by omega) (by decide) d_M_sourceOf_34 ?_
            refine uVi (n := 2) (b := 0) (As := [.int a, .int ((w 5) p)]) (rest := []) S hK hN hP hS (c_M_below hJ w F hF a ((w 5) p)) ⟨hU, t4_71, t4_68, t1_8, by decide +kernel, by decide, by decide⟩ t4_70 tp_25 (by decide) mg_obj rfl rfl rfl hl.1 rfl (Nat.le_of_ble_eq_true rfl) d_M_sourceOf_35 ⟨Nat.le_of_ble_eq_true rfl, Nat.le_of_ble_eq_true rfl⟩ (fun r u H locs hp hP hS => ?_)
            obtain ⟨hu, rfl⟩ := hp
            rw [hu] at hP
            refine lv_istore (lv' := [(4, .int (oI (mBlw w a ((w 5) p) F))), (0, .ref (ad 0)), (1, .int a), (2, .int b), (3, .int (nI ch))]) S.1 S.2.1 d_M_sourceOf_38 hl (by decide) rfl (fun ls hl => ?_)
            refine lv_goto (tgt := 10) S.1 S.2.1 d_M_sourceOf_40 (by decide) ?_
            refine ih (mBlw w a (w 5 p) F) ⟨?_, fun q hq => ⟨mBlw_lt _ _ hq, ?_⟩⟩ _ _ ls hP hS (lv_sub hl [0, 1, 2, 3, 4] rfl)
            · have h8 := hI.1; rw [mSrcL, if_pos c_m] at h8; exact h8
            · have h8 := mK_lt (mBlw_num _ _ hq).2; have h9 := (hI.2 _ rfl).2; omega
  exact L _ _ ⟨rfl, fun q hq => ⟨mBlw_lt _ _ hq, mK_lt (mBlw_num _ _ hq).2⟩⟩ _ _ ls hP hS (lv_sub hl [0, 1, 2, 3, 4] rfl)

set_option maxRecDepth 100000 in
set_option maxHeartbeats 4000000 in
theorem c_M_tracked {l : Launch} {D : va_G} {ca : Nat → ClassId} {ad : Nat → Nat} (hJ : uJ 22 ad) (w : Nat → Nat → Int32) (F : Nat) (hF : F = 40) (a b : Int32) (ch : Nat) (hch : ch < 64) : uMi l y_M_tracked b_M_tracked 5 (some .int) 2 48 D clsAll (tysAll ca) 22 ad (mG ca ad) w [.ref (ad 0), .int a, .int b, .int (nI ch)] (fun r u => u = w ∧ r = mTrk w a b ch F) := by
  refine uStart (by decide) (Nat.le_of_ble_eq_true rfl) ?_
  intro p e s m below meth c ls S hr hlk hK hN hP hl
  have hU : ∀ w ∈ uWS, w ∈ (Cond.code y_M_tracked b_M_tracked 5 (some .int) :: uWS) := fun w h => List.mem_cons_of_mem _ h
  have hS : va_S (uA 22 ad s.heap.size) s.heap s.heap [] := va_S.rf
  have hl : lv_has ls 5 [(0, .ref (ad 0)), (1, .int a), (2, .int b), (3, .int (nI ch))] := hl
  refine lv_aload_n S.1 S.2.1 d_M_tracked_0 rfl (lv_at hl 0 rfl) ?_
  refine lv_iload_n S.1 S.2.1 d_M_tracked_1 rfl (lv_at hl 1 rfl) ?_
  refine lv_iload_n S.1 S.2.1 d_M_tracked_2 rfl (lv_at hl 2 rfl) ?_
  refine lv_iload_n S.1 S.2.1 d_M_tracked_3 rfl (lv_at hl 3 rfl) ?_
  refine uVi (n := 3) (b := 0) (As := [.int a, .int b, .int (nI ch)]) (rest := []) S hK hN hP hS (c_M_sourceOf hJ w F hF a b ch hch) ⟨hU, t4_67, t4_64, t1_8, by decide +kernel, by decide, by decide⟩ t4_66 tp_24 (by decide) mg_obj rfl rfl rfl hl.1 rfl (Nat.le_of_ble_eq_true rfl) d_M_tracked_4 ⟨Nat.le_of_ble_eq_true rfl, Nat.le_of_ble_eq_true rfl⟩ (fun r u H locs hp hP hS => ?_)
  obtain ⟨hu, rfl⟩ := hp
  rw [hu] at hP
  rcases hX_1 : mSrc w a b ch F with _ | p_2
  · refine lv_istore (lv' := [(4, .int (-1)), (0, .ref (ad 0)), (1, .int a), (2, .int b), (3, .int (nI ch))]) S.1 S.2.1 d_M_tracked_7 hl (by decide) rfl (fun ls hl => ?_)
    refine lv_iload S.1 S.2.1 d_M_tracked_9 (lv_at hl 0 rfl) ?_
    refine lv_if_ge (tgt := 18) S.1 S.2.1 d_M_tracked_11 (by decide) (fun c_3 => ?_) (fun c_3 => ?_)
    · exact absurd c_3 (by decide)
    · refine lv_iconst (v := (-1)) S.1 S.2.1 d_M_tracked_14 (by decide) ?_
      refine lv_goto (tgt := 25) S.1 S.2.1 d_M_tracked_15 (by decide) ?_
      exact uIret S hr hlk w hP hS (by refine ⟨rfl, ?_⟩; rw [mTrk, hX_1]) d_M_tracked_25
  · have hp_2 := mSrc_lt _ hX_1
    refine lv_istore (lv' := [(4, .int (nI p_2)), (0, .ref (ad 0)), (1, .int a), (2, .int b), (3, .int (nI ch))]) S.1 S.2.1 d_M_tracked_7 hl (by decide) rfl (fun ls hl => ?_)
    refine lv_iload S.1 S.2.1 d_M_tracked_9 (lv_at hl 0 rfl) ?_
    refine lv_if_ge (tgt := 18) S.1 S.2.1 d_M_tracked_11 (by decide) (fun c_4 => ?_) (fun c_4 => ?_)
    · refine lv_aload_n S.1 S.2.1 d_M_tracked_18 rfl (lv_at hl 1 rfl) ?_
      refine lv_iload S.1 S.2.1 d_M_tracked_19 (lv_at hl 0 rfl) ?_
      refine lv_iload_n S.1 S.2.1 d_M_tracked_21 rfl (lv_at hl 4 rfl) ?_
      refine uVi (n := 2) (b := 0) (As := [.int (nI p_2), .int (nI ch)]) (rest := []) S hK hN hP hS (c_M_moveOf hJ w p_2 ch (by omega) hch) ⟨hU, t4_39, t4_36, t1_8, by decide +kernel, by decide, by decide⟩ t4_38 tp_17 (by decide) mg_obj rfl rfl rfl hl.1 rfl (Nat.le_of_ble_eq_true rfl) d_M_tracked_22 ⟨Nat.le_of_ble_eq_true rfl, Nat.le_of_ble_eq_true rfl⟩ (fun r u H locs hp hP hS => ?_)
      obtain ⟨hu, rfl⟩ := hp
      rw [hu] at hP
      exact uIret S hr hlk w hP hS (by refine ⟨rfl, ?_⟩; rw [mTrk, hX_1]) d_M_tracked_25
    · exact absurd (nI_pos' (by omega)) c_4

set_option maxRecDepth 100000 in
set_option maxHeartbeats 4000000 in
theorem c_M_lookOf {l : Launch} {D : va_G} {ca : Nat → ClassId} {ad : Nat → Nat} (hJ : uJ 22 ad) (w : Nat → Nat → Int32) (F : Nat) (hF : F = 40) (hv : mV w) (a b : Int32) (ch : Nat) (hch : ch < 64) : uMi l y_M_lookOf b_M_lookOf 5 (some .int) 3 72 D clsAll (tysAll ca) 22 ad (mG ca ad) w [.ref (ad 0), .int a, .int b, .int (nI ch)] (fun r u => u = w ∧ r = mLook w a b ch F) := by
  refine uStart (by decide) (Nat.le_of_ble_eq_true rfl) ?_
  intro p e s m below meth c ls S hr hlk hK hN hP hl
  have hU : ∀ w ∈ uWS, w ∈ (Cond.code y_M_lookOf b_M_lookOf 5 (some .int) :: uWS) := fun w h => List.mem_cons_of_mem _ h
  have hS : va_S (uA 22 ad s.heap.size) s.heap s.heap [] := va_S.rf
  have hl : lv_has ls 5 [(0, .ref (ad 0)), (1, .int a), (2, .int b), (3, .int (nI ch))] := hl
  refine lv_aload_n S.1 S.2.1 d_M_lookOf_0 rfl (lv_at hl 0 rfl) ?_
  refine lv_iload_n S.1 S.2.1 d_M_lookOf_1 rfl (lv_at hl 1 rfl) ?_
  refine lv_iload_n S.1 S.2.1 d_M_lookOf_2 rfl (lv_at hl 2 rfl) ?_
  refine lv_iload_n S.1 S.2.1 d_M_lookOf_3 rfl (lv_at hl 3 rfl) ?_
  refine uVi (n := 3) (b := 0) (As := [.int a, .int b, .int (nI ch)]) (rest := []) S hK hN hP hS (c_M_tracked hJ w F hF a b ch hch) ⟨hU, t4_63, t4_60, t1_8, by decide +kernel, by decide, by decide⟩ t4_62 tp_23 (by decide) mg_obj rfl rfl rfl hl.1 rfl (Nat.le_of_ble_eq_true rfl) d_M_lookOf_4 ⟨Nat.le_of_ble_eq_true rfl, Nat.le_of_ble_eq_true rfl⟩ (fun r u H locs hp hP hS => ?_)
  obtain ⟨hu, rfl⟩ := hp
  rw [hu] at hP
  refine lv_istore (lv' := [(4, .int (mTrk w a b ch F)), (0, .ref (ad 0)), (1, .int a), (2, .int b), (3, .int (nI ch))]) S.1 S.2.1 d_M_lookOf_7 hl (by decide) rfl (fun ls hl => ?_)
  refine lv_iload S.1 S.2.1 d_M_lookOf_9 (lv_at hl 0 rfl) ?_
  refine lv_if_ge (tgt := 18) S.1 S.2.1 d_M_lookOf_11 (by decide) (fun c_1 => ?_) (fun c_1 => ?_)
  · refine lv_aload_n S.1 S.2.1 d_M_lookOf_18 rfl (lv_at hl 1 rfl) ?_
    refine lv_iload S.1 S.2.1 d_M_lookOf_19 (lv_at hl 0 rfl) ?_
    refine lv_iload_n S.1 S.2.1 d_M_lookOf_21 rfl (lv_at hl 4 rfl) ?_
    refine uVi (n := 2) (b := 0) (As := [.int (mTrk w a b ch F), .int (nI ch)]) (rest := []) S hK hN hP hS (c_M_levelOf hJ w (mTrk w a b ch F) ch (mTrk_v hF hv hch) hch) ⟨hU, t4_122, t4_119, t1_8, by decide +kernel, by decide, by decide⟩ t4_121 tp_31 (by decide) mg_obj rfl rfl rfl hl.1 rfl (Nat.le_of_ble_eq_true rfl) d_M_lookOf_22 ⟨Nat.le_of_ble_eq_true rfl, Nat.le_of_ble_eq_true rfl⟩ (fun r u H locs hp hP hS => ?_)
    obtain ⟨hu, rfl⟩ := hp
    rw [hu] at hP
    exact uIret S hr hlk w hP hS (by refine ⟨rfl, ?_⟩; rw [mLook, if_pos c_1]) d_M_lookOf_25
  · refine lv_iconst (v := (-1)) S.1 S.2.1 d_M_lookOf_14 (by decide) ?_
    refine lv_goto (tgt := 25) S.1 S.2.1 d_M_lookOf_15 (by decide) ?_
    exact uIret S hr hlk w hP hS (by refine ⟨rfl, ?_⟩; rw [mLook, if_neg c_1]) d_M_lookOf_25

set_option maxRecDepth 100000 in
set_option maxHeartbeats 4000000 in
theorem c_M_noteS {l : Launch} {D : va_G} {ca : Nat → ClassId} {ad : Nat → Nat} (hJ : uJ 22 ad) (w : Nat → Nat → Int32) (M : Nat) (hM : M = 64) (F : Nat) (hF : F = 40) (q : Nat) (hq : q < 40) : uMv l y_M_note b_M_note 3 (none : Option Jvm.ClassFile.FieldType) 3 72 D clsAll (tysAll ca) 22 ad (mG ca ad) w [.ref (ad 0), .int (nI q)] (fun u => u = mNt w q F M) := by
  refine uStart (by decide) (Nat.le_of_ble_eq_true rfl) ?_
  intro p e s m below meth c ls S hr hlk hK hN hP hl
  have hU : ∀ w ∈ uWS, w ∈ (Cond.code y_M_note b_M_note 3 (none : Option Jvm.ClassFile.FieldType) :: uWS) := fun w h => List.mem_cons_of_mem _ h
  have hS : va_S (uA 22 ad s.heap.size) s.heap s.heap [] := va_S.rf
  have hl : lv_has ls 3 [(0, .ref (ad 0)), (1, .int (nI q))] := hl
  refine lv_iconst (v := 0) S.1 S.2.1 d_M_note_0 (by decide) ?_
  refine lv_istore_n (lv' := [(2, .int 0), (0, .ref (ad 0)), (1, .int (nI q))]) S.1 S.2.1 d_M_note_1 rfl hl (by decide) rfl (fun ls hl => ?_)
  have L : ∀ i, i ≤ M → ∀ (H : Heap) (locs : List Loc) (ls : Array Slot), va_P D clsAll (uw 22 ad (mG ca ad (mNt w q F i))) H → va_S (uA 22 ad s.heap.size) s.heap H locs → lv_has ls 3 [(2, .int (nI i)), (0, .ref (ad 0)), (1, .int (nI q))] → uGv 3 72 D clsAll 22 ad (mG ca ad) (fun u => u = mNt w q F M) [.ref (ad 0), .int (nI q)] p l e s m below meth c H locs 2 ls [] := by
    refine upTo M ?_ ?_
    · intro H locs ls hP hS hl
      refine lv_iload_n S.1 S.2.1 d_M_note_2 rfl (lv_at hl 0 rfl) ?_
      refine lv_bipush (v := 64) S.1 S.2.1 d_M_note_3 (by decide) ?_
      refine lv_icmp_ge (tgt := 46) S.1 S.2.1 d_M_note_5 (by decide) (fun c_h => ?_) (fun c_h => ?_)
      · exact uVret S hr hlk (mNt w q F M) hP hS (rfl) d_M_note_46
      · exact absurd (by subst hM; exact nI_le (Nat.le_refl 64) (by decide)) c_h
    · intro i hi ih H locs ls hP hS hl
      refine lv_iload_n S.1 S.2.1 d_M_note_2 rfl (lv_at hl 0 rfl) ?_
      refine lv_bipush (v := 64) S.1 S.2.1 d_M_note_3 (by decide) ?_
      refine lv_icmp_ge (tgt := 46) S.1 S.2.1 d_M_note_5 (by decide) (fun c_h => ?_) (fun c_h => ?_)
      · exact absurd c_h (nI_ge (b := 64) (by omega) (by decide))
      · refine lv_aload_n S.1 S.2.1 d_M_note_8 rfl (lv_at hl 1 rfl) ?_
        refine ur_get (k := 0) (v := .ref (ad 11)) S hK hP (by decide) mg_obj rfl (fun w h => hU w (in_M w h)) 11 (by decide) (hU _ t3_171) rfl d_M_note_9 ?_
        refine lv_iload_n S.1 S.2.1 d_M_note_12 rfl (lv_at hl 0 rfl) ?_
        refine lv_iload_n S.1 S.2.1 d_M_note_13 rfl (lv_at hl 2 rfl) ?_
        refine lv_if_ge (tgt := 21) S.1 S.2.1 d_M_note_14 (by decide) (fun c_1 => ?_) (fun c_1 => ?_)
        · refine lv_aload_n S.1 S.2.1 d_M_note_21 rfl (lv_at hl 1 rfl) ?_
          refine lv_aload_n S.1 S.2.1 d_M_note_22 rfl (lv_at hl 1 rfl) ?_
          refine ur_get (k := 0) (v := .ref (ad 4)) S hK hP (by decide) mg_obj rfl (fun w h => hU w (in_M w h)) 4 (by decide) (hU _ t3_164) rfl d_M_note_23 ?_
          refine lv_iload_n S.1 S.2.1 d_M_note_26 rfl (lv_at hl 2 rfl) ?_
          refine ur_iald (k := 4) (n := 40) (f := ((mNt w q F i) 4)) (j := q) S hK hP (by decide) 0 (mg_arr 4 (by decide)) rfl rfl hq (by decide) d_M_note_27 ?_
          refine lv_aload_n S.1 S.2.1 d_M_note_28 rfl (lv_at hl 1 rfl) ?_
          refine ur_get (k := 0) (v := .ref (ad 5)) S hK hP (by decide) mg_obj rfl (fun w h => hU w (in_M w h)) 5 (by decide) (hU _ t3_165) rfl d_M_note_29 ?_
          refine lv_iload_n S.1 S.2.1 d_M_note_32 rfl (lv_at hl 2 rfl) ?_
          refine ur_iald (k := 5) (n := 40) (f := ((mNt w q F i) 5)) (j := q) S hK hP (by decide) 0 (mg_arr 5 (by decide)) rfl rfl hq (by decide) d_M_note_33 ?_
          refine lv_iload_n S.1 S.2.1 d_M_note_34 rfl (lv_at hl 0 rfl) ?_
          refine uVi (n := 3) (b := 0) (As := [.int (((mNt w q F i) 4) q), .int (((mNt w q F i) 5) q), .int (nI i)]) (rest := [.int (nI i), .ref (ad 11)]) S hK hN hP hS (c_M_tracked hJ (mNt w q F i) F hF (((mNt w q F i) 4) q) (((mNt w q F i) 5) q) i (by omega)) ⟨hU, t4_63, t4_60, t1_8, by decide +kernel, by decide, by decide⟩ t4_62 tp_23 (by decide) mg_obj rfl rfl rfl hl.1 rfl (Nat.le_of_ble_eq_true rfl) d_M_note_35 ⟨Nat.le_of_ble_eq_true rfl, Nat.le_of_ble_eq_true rfl⟩ (fun r u H locs hp hP hS => ?_)
          obtain ⟨hu, rfl⟩ := hp
          rw [hu] at hP
          refine lv_i2s (v := s16 (mTrk (mNt w q F i) (((mNt w q F i) 4) q) (((mNt w q F i) 5) q) i F)) S.1 S.2.1 d_M_note_38 rfl ?_
          refine ur_sast (k := 11) (n := 64) (f := ((mNt w q F i) 11)) (j := i) (g' := mG ca ad (up2 (mNt w q F i) 11 i (s16 (mTrk (mNt w q F i) (((mNt w q F i) 4) q) (((mNt w q F i) 5) q) i F)))) S hK hP (uD _ hJ) hS (by decide) 4 (mg_arr 11 (by decide)) rfl rfl (by omega) (by decide) (s16_nar _) (ms_arr 11 (by decide) (by decide) (by decide)) d_M_note_39 (fun H locs hP hS => ?_)
          refine lv_iinc (v := nI (i + 1)) (lv' := [(2, .int (nI (i + 1))), (0, .ref (ad 0)), (1, .int (nI q))]) S.1 S.2.1 d_M_note_40 hl (k := 0) rfl (nI_1 i) (by decide) rfl (fun ls hl => ?_)
          refine lv_goto (tgt := 2) S.1 S.2.1 d_M_note_43 (by decide) ?_
          exact ih _ _ ls (by rw [mNt]; exact hP) hS (lv_sub hl [0, 1, 2] rfl)
        · exact absurd (nI_pos' (by omega)) c_1
  exact L 0 (Nat.zero_le _) _ _ ls hP hS (lv_sub hl [0, 1, 2] rfl)

set_option maxRecDepth 100000 in
set_option maxHeartbeats 4000000 in
theorem c_M_noteN {l : Launch} {D : va_G} {ca : Nat → ClassId} {ad : Nat → Nat} (hJ : uJ 22 ad) (w : Nat → Nat → Int32) (M : Nat) (hM : M = 64)  : uMv l y_M_note b_M_note 3 (none : Option Jvm.ClassFile.FieldType) 0 0 D clsAll (tysAll ca) 22 ad (mG ca ad) w [.ref (ad 0), .int (-1)] (fun u => u = mNn w M) := by
  refine uStart (by decide) (Nat.le_of_ble_eq_true rfl) ?_
  intro p e s m below meth c ls S hr hlk hK hN hP hl
  have hU : ∀ w ∈ uWS, w ∈ (Cond.code y_M_note b_M_note 3 (none : Option Jvm.ClassFile.FieldType) :: uWS) := fun w h => List.mem_cons_of_mem _ h
  have hS : va_S (uA 22 ad s.heap.size) s.heap s.heap [] := va_S.rf
  have hl : lv_has ls 3 [(0, .ref (ad 0)), (1, .int (-1))] := hl
  refine lv_iconst (v := 0) S.1 S.2.1 d_M_note_0 (by decide) ?_
  refine lv_istore_n (lv' := [(2, .int 0), (0, .ref (ad 0)), (1, .int (-1))]) S.1 S.2.1 d_M_note_1 rfl hl (by decide) rfl (fun ls hl => ?_)
  have L : ∀ i, i ≤ M → ∀ (H : Heap) (locs : List Loc) (ls : Array Slot), va_P D clsAll (uw 22 ad (mG ca ad (mNn w i))) H → va_S (uA 22 ad s.heap.size) s.heap H locs → lv_has ls 3 [(2, .int (nI i)), (0, .ref (ad 0)), (1, .int (-1))] → uGv 0 0 D clsAll 22 ad (mG ca ad) (fun u => u = mNn w M) [.ref (ad 0), .int (-1)] p l e s m below meth c H locs 2 ls [] := by
    refine upTo M ?_ ?_
    · intro H locs ls hP hS hl
      refine lv_iload_n S.1 S.2.1 d_M_note_2 rfl (lv_at hl 0 rfl) ?_
      refine lv_bipush (v := 64) S.1 S.2.1 d_M_note_3 (by decide) ?_
      refine lv_icmp_ge (tgt := 46) S.1 S.2.1 d_M_note_5 (by decide) (fun c_h => ?_) (fun c_h => ?_)
      · exact uVret S hr hlk (mNn w M) hP hS (rfl) d_M_note_46
      · exact absurd (by subst hM; exact nI_le (Nat.le_refl 64) (by decide)) c_h
    · intro i hi ih H locs ls hP hS hl
      refine lv_iload_n S.1 S.2.1 d_M_note_2 rfl (lv_at hl 0 rfl) ?_
      refine lv_bipush (v := 64) S.1 S.2.1 d_M_note_3 (by decide) ?_
      refine lv_icmp_ge (tgt := 46) S.1 S.2.1 d_M_note_5 (by decide) (fun c_h => ?_) (fun c_h => ?_)
      · exact absurd c_h (nI_ge (b := 64) (by omega) (by decide))
      · refine lv_aload_n S.1 S.2.1 d_M_note_8 rfl (lv_at hl 1 rfl) ?_
        refine ur_get (k := 0) (v := .ref (ad 11)) S hK hP (by decide) mg_obj rfl (fun w h => hU w (in_M w h)) 11 (by decide) (hU _ t3_171) rfl d_M_note_9 ?_
        refine lv_iload_n S.1 S.2.1 d_M_note_12 rfl (lv_at hl 0 rfl) ?_
        refine lv_iload_n S.1 S.2.1 d_M_note_13 rfl (lv_at hl 2 rfl) ?_
        refine lv_if_ge (tgt := 21) S.1 S.2.1 d_M_note_14 (by decide) (fun c_1 => ?_) (fun c_1 => ?_)
        · exact absurd c_1 (by decide)
        · refine lv_iconst (v := (-1)) S.1 S.2.1 d_M_note_17 (by decide) ?_
          refine lv_goto (tgt := 38) S.1 S.2.1 d_M_note_18 (by decide) ?_
          refine lv_i2s (v := s16 (-1)) S.1 S.2.1 d_M_note_38 rfl ?_
          refine ur_sast (k := 11) (n := 64) (f := ((mNn w i) 11)) (j := i) (g' := mG ca ad (up2 (mNn w i) 11 i (s16 (-1)))) S hK hP (uD _ hJ) hS (by decide) 4 (mg_arr 11 (by decide)) rfl rfl (by omega) (by decide) (s16_nar _) (ms_arr 11 (by decide) (by decide) (by decide)) d_M_note_39 (fun H locs hP hS => ?_)
          refine lv_iinc (v := nI (i + 1)) (lv' := [(2, .int (nI (i + 1))), (0, .ref (ad 0)), (1, .int (-1))]) S.1 S.2.1 d_M_note_40 hl (k := 0) rfl (nI_1 i) (by decide) rfl (fun ls hl => ?_)
          refine lv_goto (tgt := 2) S.1 S.2.1 d_M_note_43 (by decide) ?_
          exact ih _ _ ls (by rw [mNn]; exact hP) hS (lv_sub hl [0, 1, 2] rfl)
  exact L 0 (Nat.zero_le _) _ _ ls hP hS (lv_sub hl [0, 1, 2] rfl)

set_option maxRecDepth 100000 in
set_option maxHeartbeats 4000000 in
theorem c_M_keptMovesN {l : Launch} {D : va_G} {ca : Nat → ClassId} {ad : Nat → Nat} (hJ : uJ 22 ad) (w : Nat → Nat → Int32) (M : Nat) (hM : M = 64)  : uMi l y_M_keptMoves b_M_keptMoves 4 (some .int) 0 0 D clsAll (tysAll ca) 22 ad (mG ca ad) w [.ref (ad 0), .int (-1)] (fun r u => u = w ∧ r = 0) := by
  refine uStart (by decide) (Nat.le_of_ble_eq_true rfl) ?_
  intro p e s m below meth c ls S hr hlk hK hN hP hl
  have hU : ∀ w ∈ uWS, w ∈ (Cond.code y_M_keptMoves b_M_keptMoves 4 (some .int) :: uWS) := fun w h => List.mem_cons_of_mem _ h
  have hS : va_S (uA 22 ad s.heap.size) s.heap s.heap [] := va_S.rf
  have hl : lv_has ls 4 [(0, .ref (ad 0)), (1, .int (-1))] := hl
  refine lv_iconst (v := 0) S.1 S.2.1 d_M_keptMoves_0 (by decide) ?_
  refine lv_istore_n (lv' := [(2, .int 0), (0, .ref (ad 0)), (1, .int (-1))]) S.1 S.2.1 d_M_keptMoves_1 rfl hl (by decide) rfl (fun ls hl => ?_)
  refine lv_iconst (v := 0) S.1 S.2.1 d_M_keptMoves_2 (by decide) ?_
  refine lv_istore_n (lv' := [(3, .int 0), (2, .int 0), (0, .ref (ad 0)), (1, .int (-1))]) S.1 S.2.1 d_M_keptMoves_3 rfl hl (by decide) rfl (fun ls hl => ?_)
  refine lv_iload_n S.1 S.2.1 d_M_keptMoves_4 rfl (lv_at hl 0 rfl) ?_
  refine lv_bipush (v := 64) S.1 S.2.1 d_M_keptMoves_5 (by decide) ?_
  refine lv_icmp_ge (tgt := 48) S.1 S.2.1 d_M_keptMoves_7 (by decide) (fun c_h => ?_) (fun c_h => ?_)
  · exact absurd c_h (by decide)
  · refine lv_iload_n S.1 S.2.1 d_M_keptMoves_10 rfl (lv_at hl 3 rfl) ?_
    refine lv_if_lt (tgt := 48) S.1 S.2.1 d_M_keptMoves_11 (by decide) (fun c_1 => ?_) (fun c_1 => ?_)
    · refine lv_iload_n S.1 S.2.1 d_M_keptMoves_48 rfl (lv_at hl 1 rfl) ?_
      exact uIret S hr hlk w hP hS (⟨rfl, rfl⟩) d_M_keptMoves_49
    · exact absurd (by decide) c_1
