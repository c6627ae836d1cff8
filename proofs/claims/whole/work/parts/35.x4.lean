/-! The class: rows emptied, cues begun, levels, fades (printed by wip/gen/gen_x4.py) -/
set_option maxRecDepth 100000 in
set_option maxHeartbeats 4000000 in
theorem c_V_dropAll {l : Launch} {D : va_G} {ca : Nat → ClassId} {ad : Nat → Nat} (hJ : uJ 165 ad) (v : Nat → Nat → Nat → Int32) (π : Nat → Nat) (j : Nat) (hj : j < 41) : uMv l y_V_dropAll b_V_dropAll 1 (none : Option Jvm.ClassFile.FieldType) 1 23 D clsAll (tysAll ca) 165 ad (xG ca ad) (v, π) [.ref (ad (7 + 2 * j))] (fun u => u = (vDropAll v j, π)) := by
  refine uStart (by decide) (Nat.le_of_ble_eq_true rfl) ?_
  intro p e s m below meth c ls S hr hlk hK hN hP hl
  have hU : ∀ w ∈ uWS, w ∈ (Cond.code y_V_dropAll b_V_dropAll 1 (none : Option Jvm.ClassFile.FieldType) :: uWS) := fun w h => List.mem_cons_of_mem _ h
  have hS : va_S (uA 165 ad s.heap.size) s.heap s.heap [] := va_S.rf
  have hl : lv_has ls 1 [(0, .ref (ad (7 + 2 * j)))] := hl
  refine lv_aload_n S.1 S.2.1 d_V_dropAll_0 rfl (lv_at hl 0 rfl) ?_
  refine ur_get (k := (7 + 2 * j)) (v := .ref (ad (8 + 2 * j))) S hK hP (kb_V hj) (xg_row hj) rfl (fun w h => hU w (in_V w h)) 0 (by decide) (hU _ t1_35) rfl d_V_dropAll_1 ?_
  refine lv_iconst (v := (-1)) S.1 S.2.1 d_V_dropAll_4 (by decide) ?_
  refine uSv1 (n := 2) (As := [.ref (ad (8 + 2 * j)), .int (-1)]) (rest := []) (G1 := aG (ca 0) 64) (f1 := v 17 j) (g' := fun u => (vRow v 17 j u, π)) S hK hN hJ hP hS (8 + 2 * j) (kb_W hj) (c_JA_fill _ 64 (by decide) _ _) (by rw [(xg_val hj)]; rfl) (fun u => xG_row (by simp [xOwn]) (by rw [(xg_val hj)]; simp [vRow, aG])) ⟨hU, t1_34, t1_32, t1_3, by decide +kernel, by decide, by decide⟩ t1_33 rfl hl.1 rfl (Nat.le_of_ble_eq_true rfl) d_V_dropAll_5 ⟨Nat.le_of_ble_eq_true rfl, Nat.le_of_ble_eq_true rfl⟩ (fun u H locs hp hP hS => ?_)
  subst hp
  refine lv_aload_n S.1 S.2.1 d_V_dropAll_8 rfl (lv_at hl 0 rfl) ?_
  refine lv_iconst (v := 0) S.1 S.2.1 d_V_dropAll_9 (by decide) ?_
  refine ur_put (k := (7 + 2 * j)) (v := .int 0) (g' := xG ca ad (up3 (vRow v 17 j (fun i => if i < 64 then (-1) else v 17 j i)) 16 j 0 0, π)) S hK hP (uD _ hJ) hS (kb_V hj) (xg_row hj) rfl (fun w h => hU w (in_V w h)) ty_V tyk_V nm_V 1 (by decide) (hU _ t1_36) rfl rfl rfl (Nat.le_of_ble_eq_true rfl) (xs_held hj) d_V_dropAll_10 (fun H locs hP hS => ?_)
  exact uVret S hr hlk ((up3 (vRow v 17 j (fun i => if i < 64 then (-1) else v 17 j i)) 16 j 0 0), π) hP hS (rfl) d_V_dropAll_13

set_option maxRecDepth 100000 in
set_option maxHeartbeats 4000000 in
theorem c_C_beginAs {l : Launch} {D : va_G} {ca : Nat → ClassId} {ad : Nat → Nat} (hJ : uJ 165 ad) (v : Nat → Nat → Nat → Int32) (π : Nat → Nat) (j : Nat) (hj : j < 40) (a b : Int32) : uMv l y_C_beginAs b_C_beginAs 3 (none : Option Jvm.ClassFile.FieldType) 2 43 D clsAll (tysAll ca) 165 ad (xG ca ad) (v, π) [.ref (ad (89 + j)), .int a, .int b] (fun u => u = (vBegin v j a b, π)) := by
  refine uStart (by decide) (Nat.le_of_ble_eq_true rfl) ?_
  intro p e s m below meth c ls S hr hlk hK hN hP hl
  have hU : ∀ w ∈ uWS, w ∈ (Cond.code y_C_beginAs b_C_beginAs 3 (none : Option Jvm.ClassFile.FieldType) :: uWS) := fun w h => List.mem_cons_of_mem _ h
  have hS : va_S (uA 165 ad s.heap.size) s.heap s.heap [] := va_S.rf
  have hl : lv_has ls 3 [(0, .ref (ad (89 + j))), (1, .int a), (2, .int b)] := hl
  refine lv_aload_n S.1 S.2.1 d_C_beginAs_0 rfl (lv_at hl 0 rfl) ?_
  refine lv_iload_n S.1 S.2.1 d_C_beginAs_1 rfl (lv_at hl 1 rfl) ?_
  refine ur_put (k := (89 + j)) (v := .int a) (g' := xG ca ad (up3 v 10 j 0 a, π)) S hK hP (uD _ hJ) hS (kb_C hj) (xg_cue hj) rfl (fun w h => hU w (in_C w h)) ty_C tyk_C nm_C 1 (by decide) (hU _ t1_75) rfl rfl rfl (Nat.le_of_ble_eq_true rfl) (xs_clist hj) d_C_beginAs_2 (fun H locs hP hS => ?_)
  refine lv_aload_n S.1 S.2.1 d_C_beginAs_5 rfl (lv_at hl 0 rfl) ?_
  refine lv_iload_n S.1 S.2.1 d_C_beginAs_6 rfl (lv_at hl 2 rfl) ?_
  refine ur_put (k := (89 + j)) (v := .int b) (g' := xG ca ad (up3 (up3 v 10 j 0 a) 11 j 0 b, π)) S hK hP (uD _ hJ) hS (kb_C hj) (xg_cue hj) rfl (fun w h => hU w (in_C w h)) ty_C tyk_C nm_C 2 (by decide) (hU _ t1_77) rfl rfl rfl (Nat.le_of_ble_eq_true rfl) (xs_cnumber hj) d_C_beginAs_7 (fun H locs hP hS => ?_)
  refine lv_aload_n S.1 S.2.1 d_C_beginAs_10 rfl (lv_at hl 0 rfl) ?_
  refine lv_iconst (v := 0) S.1 S.2.1 d_C_beginAs_11 (by decide) ?_
  refine ur_put (k := (89 + j)) (v := .int 0) (g' := xG ca ad (up3 (up3 (up3 v 10 j 0 a) 11 j 0 b) 12 j 0 0, π)) S hK hP (uD _ hJ) hS (kb_C hj) (xg_cue hj) rfl (fun w h => hU w (in_C w h)) ty_C tyk_C nm_C 3 (by decide) (hU _ t1_80) rfl rfl rfl (Nat.le_of_ble_eq_true rfl) (xs_cup hj) d_C_beginAs_12 (fun H locs hP hS => ?_)
  refine lv_aload_n S.1 S.2.1 d_C_beginAs_15 rfl (lv_at hl 0 rfl) ?_
  refine lv_iconst (v := 0) S.1 S.2.1 d_C_beginAs_16 (by decide) ?_
  refine ur_put (k := (89 + j)) (v := .int 0) (g' := xG ca ad (up3 (up3 (up3 (up3 v 10 j 0 a) 11 j 0 b) 12 j 0 0) 13 j 0 0, π)) S hK hP (uD _ hJ) hS (kb_C hj) (xg_cue hj) rfl (fun w h => hU w (in_C w h)) ty_C tyk_C nm_C 4 (by decide) (hU _ t1_83) rfl rfl rfl (Nat.le_of_ble_eq_true rfl) (xs_cdown hj) d_C_beginAs_17 (fun H locs hP hS => ?_)
  refine lv_aload_n S.1 S.2.1 d_C_beginAs_20 rfl (lv_at hl 0 rfl) ?_
  refine lv_iconst (v := 0) S.1 S.2.1 d_C_beginAs_21 (by decide) ?_
  refine ur_put (k := (89 + j)) (v := .int 0) (g' := xG ca ad (up3 (up3 (up3 (up3 (up3 v 10 j 0 a) 11 j 0 b) 12 j 0 0) 13 j 0 0) 14 j 0 0, π)) S hK hP (uD _ hJ) hS (kb_C hj) (xg_cue hj) rfl (fun w h => hU w (in_C w h)) ty_C tyk_C nm_C 5 (by decide) (hU _ t1_86) rfl rfl rfl (Nat.le_of_ble_eq_true rfl) (xs_cdelay hj) d_C_beginAs_22 (fun H locs hP hS => ?_)
  refine lv_aload_n S.1 S.2.1 d_C_beginAs_25 rfl (lv_at hl 0 rfl) ?_
  refine lv_iconst (v := (-1)) S.1 S.2.1 d_C_beginAs_26 (by decide) ?_
  refine ur_put (k := (89 + j)) (v := .int (-1)) (g' := xG ca ad (up3 (up3 (up3 (up3 (up3 (up3 v 10 j 0 a) 11 j 0 b) 12 j 0 0) 13 j 0 0) 14 j 0 0) 15 j 0 (-1), π)) S hK hP (uD _ hJ) hS (kb_C hj) (xg_cue hj) rfl (fun w h => hU w (in_C w h)) ty_C tyk_C nm_C 6 (by decide) (hU _ t1_89) rfl rfl rfl (Nat.le_of_ble_eq_true rfl) (xs_cfollow hj) d_C_beginAs_27 (fun H locs hP hS => ?_)
  refine lv_aload_n S.1 S.2.1 d_C_beginAs_30 rfl (lv_at hl 0 rfl) ?_
  refine ur_get (k := (89 + j)) (v := .ref (ad (7 + 2 * j))) S hK hP (kb_C hj) (xg_cue hj) rfl (fun w h => hU w (in_C w h)) 0 (by decide) (hU _ t1_73) rfl d_C_beginAs_31 ?_
  refine uVv (n := 0) (b := (7 + 2 * j)) (As := []) (rest := []) S hK hN hP hS (c_V_dropAll hJ (up3 (up3 (up3 (up3 (up3 (up3 v 10 j 0 a) 11 j 0 b) 12 j 0 0) 13 j 0 0) 14 j 0 0) 15 j 0 (-1)) π j (Nat.lt_succ_of_lt hj)) ⟨hU, t1_212, t2_145, t1_2, by decide +kernel, by decide, by decide⟩ t1_210 t1_211 (kb_V (Nat.lt_succ_of_lt hj)) (xg_row (Nat.lt_succ_of_lt hj)) rfl rfl rfl hl.1 rfl (Nat.le_of_ble_eq_true rfl) d_C_beginAs_34 ⟨Nat.le_of_ble_eq_true rfl, Nat.le_of_ble_eq_true rfl⟩ (fun u H locs hp hP hS => ?_)
  obtain rfl := hp
  exact uVret S hr hlk ((vDropAll (up3 (up3 (up3 (up3 (up3 (up3 v 10 j 0 a) 11 j 0 b) 12 j 0 0) 13 j 0 0) 14 j 0 0) 15 j 0 (-1)) j), π) hP hS (rfl) d_C_beginAs_37

set_option maxRecDepth 100000 in
set_option maxHeartbeats 4000000 in
theorem c_C_detail {l : Launch} {D : va_G} {ca : Nat → ClassId} {ad : Nat → Nat} (hJ : uJ 165 ad) (v : Nat → Nat → Nat → Int32) (π : Nat → Nat) (j : Nat) (hj : j < 40) (q : Nat) (hq : q < 6) : uMi l y_C_detail b_C_detail 2 (some .int) 0 0 D clsAll (tysAll ca) 165 ad (xG ca ad) (v, π) [.ref (ad (89 + j)), .int (nI q)] (fun r u => u = (v, π) ∧ r = cDet v j q) := by
  refine uStart (by decide) (Nat.le_of_ble_eq_true rfl) ?_
  intro p e s m below meth c ls S hr hlk hK hN hP hl
  have hU : ∀ w ∈ uWS, w ∈ (Cond.code y_C_detail b_C_detail 2 (some .int) :: uWS) := fun w h => List.mem_cons_of_mem _ h
  have hS : va_S (uA 165 ad s.heap.size) s.heap s.heap [] := va_S.rf
  have hl : lv_has ls 2 [(0, .ref (ad (89 + j))), (1, .int (nI q))] := hl
  refine lv_iload_n S.1 S.2.1 d_C_detail_0 rfl (lv_at hl 1 rfl) ?_
  rcases (by omega : q = 0 ∨ q = 1 ∨ q = 2 ∨ q = 3 ∨ q = 4 ∨ q = 5) with rfl | rfl | rfl | rfl | rfl | rfl
  · refine lv_tableIn (off := 39) (tgt := 40) S.1 S.2.1 d_C_detail_1 (by decide) (by decide) rfl (by decide) ?_
    refine lv_aload_n S.1 S.2.1 d_C_detail_40 rfl (lv_at hl 0 rfl) ?_
    refine ur_get (k := (89 + j)) (v := .int (v 11 j 0)) S hK hP (kb_C hj) (xg_cue hj) rfl (fun w h => hU w (in_C w h)) 2 (by decide) (hU _ t1_77) rfl d_C_detail_41 ?_
    exact uIret S hr hlk (v, π) hP hS (⟨rfl, rfl⟩) d_C_detail_44
  · refine lv_tableIn (off := 44) (tgt := 45) S.1 S.2.1 d_C_detail_1 (by decide) (by decide) rfl (by decide) ?_
    refine lv_aload_n S.1 S.2.1 d_C_detail_45 rfl (lv_at hl 0 rfl) ?_
    refine ur_get (k := (89 + j)) (v := .ref (ad (7 + 2 * j))) S hK hP (kb_C hj) (xg_cue hj) rfl (fun w h => hU w (in_C w h)) 0 (by decide) (hU _ t1_73) rfl d_C_detail_46 ?_
    refine ur_getN (k := (7 + 2 * j)) (v := .int (v 16 j 0)) S hK hP (kb_V (Nat.lt_succ_of_lt hj)) (xg_row (Nat.lt_succ_of_lt hj)) rfl (fun w h => hU w (in_V w h)) 1 (by decide) (hN _ t1_38) rfl d_C_detail_49 ?_
    exact uIret S hr hlk (v, π) hP hS (⟨rfl, rfl⟩) d_C_detail_52
  · refine lv_tableIn (off := 52) (tgt := 53) S.1 S.2.1 d_C_detail_1 (by decide) (by decide) rfl (by decide) ?_
    refine lv_aload_n S.1 S.2.1 d_C_detail_53 rfl (lv_at hl 0 rfl) ?_
    refine ur_get (k := (89 + j)) (v := .int (v 12 j 0)) S hK hP (kb_C hj) (xg_cue hj) rfl (fun w h => hU w (in_C w h)) 3 (by decide) (hU _ t1_80) rfl d_C_detail_54 ?_
    exact uIret S hr hlk (v, π) hP hS (⟨rfl, rfl⟩) d_C_detail_57
  · refine lv_tableIn (off := 57) (tgt := 58) S.1 S.2.1 d_C_detail_1 (by decide) (by decide) rfl (by decide) ?_
    refine lv_aload_n S.1 S.2.1 d_C_detail_58 rfl (lv_at hl 0 rfl) ?_
    refine ur_get (k := (89 + j)) (v := .int (v 13 j 0)) S hK hP (kb_C hj) (xg_cue hj) rfl (fun w h => hU w (in_C w h)) 4 (by decide) (hU _ t1_83) rfl d_C_detail_59 ?_
    exact uIret S hr hlk (v, π) hP hS (⟨rfl, rfl⟩) d_C_detail_62
  · refine lv_tableIn (off := 62) (tgt := 63) S.1 S.2.1 d_C_detail_1 (by decide) (by decide) rfl (by decide) ?_
    refine lv_aload_n S.1 S.2.1 d_C_detail_63 rfl (lv_at hl 0 rfl) ?_
    refine ur_get (k := (89 + j)) (v := .int (v 14 j 0)) S hK hP (kb_C hj) (xg_cue hj) rfl (fun w h => hU w (in_C w h)) 5 (by decide) (hU _ t1_86) rfl d_C_detail_64 ?_
    exact uIret S hr hlk (v, π) hP hS (⟨rfl, rfl⟩) d_C_detail_67
  · refine lv_tableIn (off := 67) (tgt := 68) S.1 S.2.1 d_C_detail_1 (by decide) (by decide) rfl (by decide) ?_
    refine lv_aload_n S.1 S.2.1 d_C_detail_68 rfl (lv_at hl 0 rfl) ?_
    refine ur_get (k := (89 + j)) (v := .int (v 15 j 0)) S hK hP (kb_C hj) (xg_cue hj) rfl (fun w h => hU w (in_C w h)) 6 (by decide) (hU _ t1_89) rfl d_C_detail_69 ?_
    exact uIret S hr hlk (v, π) hP hS (⟨rfl, rfl⟩) d_C_detail_72

set_option maxRecDepth 100000 in
set_option maxHeartbeats 4000000 in
theorem c_P_levelOf {l : Launch} {D : va_G} {ca : Nat → ClassId} {ad : Nat → Nat} (hJ : uJ 165 ad) (v : Nat → Nat → Nat → Int32) (π : Nat → Nat) (x : Int32) (ch : Nat) (hch : ch < 64) : uMi l y_P_levelOf b_P_levelOf 3 (some .int) 0 0 D clsAll (tysAll ca) 165 ad (xG ca ad) (v, π) [.ref (ad 2), .int x, .int (nI ch)] (fun r u => u = (v, π) ∧ r = vLev v x ch) := by
  refine uStart (by decide) (Nat.le_of_ble_eq_true rfl) ?_
  intro p e s m below meth c ls S hr hlk hK hN hP hl
  have hU : ∀ w ∈ uWS, w ∈ (Cond.code y_P_levelOf b_P_levelOf 3 (some .int) :: uWS) := fun w h => List.mem_cons_of_mem _ h
  have hS : va_S (uA 165 ad s.heap.size) s.heap s.heap [] := va_S.rf
  have hl : lv_has ls 3 [(0, .ref (ad 2)), (1, .int x), (2, .int (nI ch))] := hl
  refine lv_iload_n S.1 S.2.1 d_P_levelOf_0 rfl (lv_at hl 1 rfl) ?_
  refine lv_if_lt (tgt := 11) S.1 S.2.1 d_P_levelOf_1 (by decide) (fun c_0 => ?_) (fun c_0 => ?_)
  · refine lv_iconst (v := (-1)) S.1 S.2.1 d_P_levelOf_11 (by decide) ?_
    exact uIret S hr hlk (v, π) hP hS (by refine ⟨rfl, ?_⟩; simp [vLev, c_0]) d_P_levelOf_12
  · refine lv_iload_n S.1 S.2.1 d_P_levelOf_4 rfl (lv_at hl 1 rfl) ?_
    refine lv_sipush (v := 272) S.1 S.2.1 d_P_levelOf_5 (by decide) ?_
    refine lv_icmp_lt (tgt := 13) S.1 S.2.1 d_P_levelOf_8 (by decide) (fun c_7 => ?_) (fun c_7 => ?_)
    · have c_7 : ¬ 272 ≤ x := Int32.not_le.mpr c_7
      refine lv_iload_n S.1 S.2.1 d_P_levelOf_13 rfl (lv_at hl 1 rfl) ?_
      refine lv_sipush (v := 256) S.1 S.2.1 d_P_levelOf_14 (by decide) ?_
      refine lv_icmp_ge (tgt := 22) S.1 S.2.1 d_P_levelOf_17 (by decide) (fun c_6 => ?_) (fun c_6 => ?_)
      · have c_6 : ¬ x < 256 := Int32.not_lt.mpr c_6
        refine lv_aload_n S.1 S.2.1 d_P_levelOf_22 rfl (lv_at hl 0 rfl) ?_
        refine ur_get (k := 2) (v := .ref (ad 3)) S hK hP (by decide) xg_pal rfl (fun w h => hU w (in_P w h)) 0 (by decide) (hU _ t1_54) rfl d_P_levelOf_23 ?_
        refine lv_iload_n S.1 S.2.1 d_P_levelOf_26 rfl (lv_at hl 1 rfl) ?_
        refine lv_sipush (v := 256) S.1 S.2.1 d_P_levelOf_27 (by decide) ?_
        refine lv_isub S.1 S.2.1 d_P_levelOf_30 ?_
        refine lv_bipush (v := 64) S.1 S.2.1 d_P_levelOf_31 (by decide) ?_
        refine lv_imul S.1 S.2.1 d_P_levelOf_33 ?_
        refine lv_iload_n S.1 S.2.1 d_P_levelOf_34 rfl (lv_at hl 2 rfl) ?_
        refine lv_iadd S.1 S.2.1 d_P_levelOf_35 ?_
        refine ur_iald (k := 3) (f := (v 3 0)) (j := ((x.toNatClampNeg - 256) * 64 + ch)) S hK hP (by decide) 0 xg_lev rfl (lev_ix c_0 c_7 c_6 hch).1 (lev_ix c_0 c_7 c_6 hch).2 (by decide) d_P_levelOf_36 ?_
        exact uIret S hr hlk (v, π) hP hS (by refine ⟨rfl, ?_⟩; simp [vLev, c_0, c_7, c_6]) d_P_levelOf_37
      · have c_6 : x < 256 := Int32.not_le.mp c_6
        refine lv_iload_n S.1 S.2.1 d_P_levelOf_20 rfl (lv_at hl 1 rfl) ?_
        exact uIret S hr hlk (v, π) hP hS (by refine ⟨rfl, ?_⟩; simp [vLev, c_0, c_7, c_6]) d_P_levelOf_21
    · have c_7 : 272 ≤ x := Int32.not_lt.mp c_7
      refine lv_iconst (v := (-1)) S.1 S.2.1 d_P_levelOf_11 (by decide) ?_
      exact uIret S hr hlk (v, π) hP hS (by refine ⟨rfl, ?_⟩; simp [vLev, c_0, c_7]) d_P_levelOf_12

set_option maxRecDepth 100000 in
set_option maxHeartbeats 4000000 in
theorem c_Y_fade {l : Launch} {D : va_G} {ca : Nat → ClassId} {ad : Nat → Nat} (hJ : uJ 165 ad) (v : Nat → Nat → Nat → Int32) (π : Nat → Nat) (j ch : Nat) (hj : j < 6) (hch : ch < 64) (x : Int32) (o : Nat) (ho : o < 40) (t : Int32) : uMv l y_Y_fade b_Y_fade 6 (none : Option Jvm.ClassFile.FieldType) 1 24 D clsAll (tysAll ca) 165 ad (xG ca ad) (v, π) [.ref (ad (129 + 6 * j)), .int (nI ch), .int x, .ref (ad (89 + o)), .int t] (fun u => u = (vFd v j ch x o t, π)) := by
  refine uStart (by decide) (Nat.le_of_ble_eq_true rfl) ?_
  intro p e s m below meth c ls S hr hlk hK hN hP hl
  have hU : ∀ w ∈ uWS, w ∈ (Cond.code y_Y_fade b_Y_fade 6 (none : Option Jvm.ClassFile.FieldType) :: uWS) := fun w h => List.mem_cons_of_mem _ h
  have hS : va_S (uA 165 ad s.heap.size) s.heap s.heap [] := va_S.rf
  have hl : lv_has ls 6 [(0, .ref (ad (129 + 6 * j))), (1, .int (nI ch)), (2, .int x), (3, .ref (ad (89 + o))), (4, .int t)] := hl
  refine lv_aload_n S.1 S.2.1 d_Y_fade_0 rfl (lv_at hl 0 rfl) ?_
  refine lv_iload_n S.1 S.2.1 d_Y_fade_1 rfl (lv_at hl 1 rfl) ?_
  refine lv_iload S.1 S.2.1 d_Y_fade_2 (lv_at hl 4 rfl) ?_
  refine uVi (n := 2) (b := (129 + 6 * j)) (As := [.int (nI ch), .int t]) (rest := []) S hK hN hP hS (c_Y_levelAt hJ v π j ch hj hch t) ⟨hU, t3_117, t3_114, t1_7, by decide +kernel, by decide, by decide⟩ t3_115 t3_116 (kb_Y hj) (xg_ply hj) rfl rfl rfl hl.1 rfl (Nat.le_of_ble_eq_true rfl) d_Y_fade_4 ⟨Nat.le_of_ble_eq_true rfl, Nat.le_of_ble_eq_true rfl⟩ (fun r u H locs hp hP hS => ?_)
  obtain ⟨rfl, rfl⟩ := hp
  refine lv_topi (fun x_1 ex_1 => ?_)
  refine lv_istore (lv' := [(5, .int x_1), (0, .ref (ad (129 + 6 * j))), (1, .int (nI ch)), (2, .int x), (3, .ref (ad (89 + o))), (4, .int t)]) S.1 S.2.1 d_Y_fade_7 hl (by decide) rfl (fun ls hl => ?_)
  refine lv_aload_n S.1 S.2.1 d_Y_fade_9 rfl (lv_at hl 1 rfl) ?_
  refine ur_get (k := (129 + 6 * j)) (v := .ref (ad (130 + 6 * j))) S hK hP (kb_Y hj) (xg_ply hj) rfl (fun w h => hU w (in_Y w h)) 0 (by decide) (hU _ t1_122) rfl d_Y_fade_10 ?_
  refine lv_iload_n S.1 S.2.1 d_Y_fade_13 rfl (lv_at hl 2 rfl) ?_
  refine lv_iload S.1 S.2.1 d_Y_fade_14 (lv_at hl 0 rfl) ?_
  refine ur_iast (k := (130 + 0 + 6 * j)) (f := (v 20 j)) (j := ch) (g' := xG ca ad (up3 v 20 j ch x_1, π)) S hK hP (uD _ hJ) hS (kb_A 0 (by decide) hj) 0 (xg_arr 0 (by decide) hj) rfl rfl hch (by decide) (xs_a0 hj) d_Y_fade_16 (fun H locs hP hS => ?_)
  refine lv_aload_n S.1 S.2.1 d_Y_fade_17 rfl (lv_at hl 1 rfl) ?_
  refine ur_get (k := (129 + 6 * j)) (v := .ref (ad (131 + 6 * j))) S hK hP (kb_Y hj) (xg_ply hj) rfl (fun w h => hU w (in_Y w h)) 1 (by decide) (hU _ t1_123) rfl d_Y_fade_18 ?_
  refine lv_iload_n S.1 S.2.1 d_Y_fade_21 rfl (lv_at hl 2 rfl) ?_
  refine lv_iload_n S.1 S.2.1 d_Y_fade_22 rfl (lv_at hl 3 rfl) ?_
  refine ur_iast (k := (130 + 1 + 6 * j)) (f := ((up3 v 20 j ch x_1) 21 j)) (j := ch) (g' := xG ca ad (up3 (up3 v 20 j ch x_1) 21 j ch x, π)) S hK hP (uD _ hJ) hS (kb_A 1 (by decide) hj) 0 (xg_arr 1 (by decide) hj) rfl rfl hch (by decide) (xs_a1 hj) d_Y_fade_23 (fun H locs hP hS => ?_)
  refine lv_aload_n S.1 S.2.1 d_Y_fade_24 rfl (lv_at hl 1 rfl) ?_
  refine ur_get (k := (129 + 6 * j)) (v := .ref (ad (132 + 6 * j))) S hK hP (kb_Y hj) (xg_ply hj) rfl (fun w h => hU w (in_Y w h)) 2 (by decide) (hU _ t1_124) rfl d_Y_fade_25 ?_
  refine lv_iload_n S.1 S.2.1 d_Y_fade_28 rfl (lv_at hl 2 rfl) ?_
  refine lv_iload S.1 S.2.1 d_Y_fade_29 (lv_at hl 5 rfl) ?_
  refine lv_aload_n S.1 S.2.1 d_Y_fade_31 rfl (lv_at hl 4 rfl) ?_
  refine ur_getN (k := (89 + o)) (v := .int ((up3 (up3 v 20 j ch x_1) 21 j ch x) 14 o 0)) S hK hP (kb_C ho) (xg_cue ho) rfl (fun w h => hU w (in_C w h)) 5 (by decide) (hN _ t1_87) rfl d_Y_fade_32 ?_
  refine lv_iadd S.1 S.2.1 d_Y_fade_35 ?_
  refine lv_topi (fun x_2 ex_2 => ?_)
  refine ur_iast (k := (130 + 2 + 6 * j)) (f := ((up3 (up3 v 20 j ch x_1) 21 j ch x) 22 j)) (j := ch) (g' := xG ca ad (up3 (up3 (up3 v 20 j ch x_1) 21 j ch x) 22 j ch x_2, π)) S hK hP (uD _ hJ) hS (kb_A 2 (by decide) hj) 0 (xg_arr 2 (by decide) hj) rfl rfl hch (by decide) (xs_a2 hj) d_Y_fade_36 (fun H locs hP hS => ?_)
  refine lv_aload_n S.1 S.2.1 d_Y_fade_37 rfl (lv_at hl 1 rfl) ?_
  refine ur_get (k := (129 + 6 * j)) (v := .ref (ad (133 + 6 * j))) S hK hP (kb_Y hj) (xg_ply hj) rfl (fun w h => hU w (in_Y w h)) 3 (by decide) (hU _ t1_125) rfl d_Y_fade_38 ?_
  refine lv_iload_n S.1 S.2.1 d_Y_fade_41 rfl (lv_at hl 2 rfl) ?_
  refine lv_iload_n S.1 S.2.1 d_Y_fade_42 rfl (lv_at hl 3 rfl) ?_
  refine lv_iload S.1 S.2.1 d_Y_fade_43 (lv_at hl 0 rfl) ?_
  refine lv_icmp_lt (tgt := 55) S.1 S.2.1 d_Y_fade_45 (by decide) (fun c_3 => ?_) (fun c_3 => ?_)
  · refine lv_aload_n S.1 S.2.1 d_Y_fade_55 rfl (lv_at hl 4 rfl) ?_
    refine ur_getN (k := (89 + o)) (v := .int ((up3 (up3 (up3 v 20 j ch x_1) 21 j ch x) 22 j ch x_2) 13 o 0)) S hK hP (kb_C ho) (xg_cue ho) rfl (fun w h => hU w (in_C w h)) 4 (by decide) (hN _ t1_84) rfl d_Y_fade_56 ?_
    refine lv_topi (fun x_4 ex_4 => ?_)
    refine ur_iast (k := (130 + 3 + 6 * j)) (f := ((up3 (up3 (up3 v 20 j ch x_1) 21 j ch x) 22 j ch x_2) 23 j)) (j := ch) (g' := xG ca ad (up3 (up3 (up3 (up3 v 20 j ch x_1) 21 j ch x) 22 j ch x_2) 23 j ch x_4, π)) S hK hP (uD _ hJ) hS (kb_A 3 (by decide) hj) 0 (xg_arr 3 (by decide) hj) rfl rfl hch (by decide) (xs_a3 hj) d_Y_fade_59 (fun H locs hP hS => ?_)
    refine lv_aload_n S.1 S.2.1 d_Y_fade_60 rfl (lv_at hl 1 rfl) ?_
    refine ur_get (k := (129 + 6 * j)) (v := .ref (ad (134 + 6 * j))) S hK hP (kb_Y hj) (xg_ply hj) rfl (fun w h => hU w (in_Y w h)) 4 (by decide) (hU _ t1_126) rfl d_Y_fade_61 ?_
    refine lv_iload_n S.1 S.2.1 d_Y_fade_64 rfl (lv_at hl 2 rfl) ?_
    refine lv_iload S.1 S.2.1 d_Y_fade_65 (lv_at hl 5 rfl) ?_
    refine ur_iast (k := (130 + 4 + 6 * j)) (f := ((up3 (up3 (up3 (up3 v 20 j ch x_1) 21 j ch x) 22 j ch x_2) 23 j ch x_4) 24 j)) (j := ch) (g' := xG ca ad (up3 (up3 (up3 (up3 (up3 v 20 j ch x_1) 21 j ch x) 22 j ch x_2) 23 j ch x_4) 24 j ch t, π)) S hK hP (uD _ hJ) hS (kb_A 4 (by decide) hj) 0 (xg_arr 4 (by decide) hj) rfl rfl hch (by decide) (xs_a4 hj) d_Y_fade_67 (fun H locs hP hS => ?_)
    exact uVret S hr hlk ((up3 (up3 (up3 (up3 (up3 v 20 j ch x_1) 21 j ch x) 22 j ch x_2) 23 j ch x_4) 24 j ch t), π) hP hS (by subst_vars; simp [vFd, up3_f, c_3]) d_Y_fade_68
  · refine lv_aload_n S.1 S.2.1 d_Y_fade_48 rfl (lv_at hl 4 rfl) ?_
    refine ur_getN (k := (89 + o)) (v := .int ((up3 (up3 (up3 v 20 j ch x_1) 21 j ch x) 22 j ch x_2) 12 o 0)) S hK hP (kb_C ho) (xg_cue ho) rfl (fun w h => hU w (in_C w h)) 3 (by decide) (hN _ t1_81) rfl d_Y_fade_49 ?_
    refine lv_goto (tgt := 59) S.1 S.2.1 d_Y_fade_52 (by decide) ?_
    refine lv_topi (fun x_5 ex_5 => ?_)
    refine ur_iast (k := (130 + 3 + 6 * j)) (f := ((up3 (up3 (up3 v 20 j ch x_1) 21 j ch x) 22 j ch x_2) 23 j)) (j := ch) (g' := xG ca ad (up3 (up3 (up3 (up3 v 20 j ch x_1) 21 j ch x) 22 j ch x_2) 23 j ch x_5, π)) S hK hP (uD _ hJ) hS (kb_A 3 (by decide) hj) 0 (xg_arr 3 (by decide) hj) rfl rfl hch (by decide) (xs_a3 hj) d_Y_fade_59 (fun H locs hP hS => ?_)
    refine lv_aload_n S.1 S.2.1 d_Y_fade_60 rfl (lv_at hl 1 rfl) ?_
    refine ur_get (k := (129 + 6 * j)) (v := .ref (ad (134 + 6 * j))) S hK hP (kb_Y hj) (xg_ply hj) rfl (fun w h => hU w (in_Y w h)) 4 (by decide) (hU _ t1_126) rfl d_Y_fade_61 ?_
    refine lv_iload_n S.1 S.2.1 d_Y_fade_64 rfl (lv_at hl 2 rfl) ?_
    refine lv_iload S.1 S.2.1 d_Y_fade_65 (lv_at hl 5 rfl) ?_
    refine ur_iast (k := (130 + 4 + 6 * j)) (f := ((up3 (up3 (up3 (up3 v 20 j ch x_1) 21 j ch x) 22 j ch x_2) 23 j ch x_5) 24 j)) (j := ch) (g' := xG ca ad (up3 (up3 (up3 (up3 (up3 v 20 j ch x_1) 21 j ch x) 22 j ch x_2) 23 j ch x_5) 24 j ch t, π)) S hK hP (uD _ hJ) hS (kb_A 4 (by decide) hj) 0 (xg_arr 4 (by decide) hj) rfl rfl hch (by decide) (xs_a4 hj) d_Y_fade_67 (fun H locs hP hS => ?_)
    exact uVret S hr hlk ((up3 (up3 (up3 (up3 (up3 v 20 j ch x_1) 21 j ch x) 22 j ch x_2) 23 j ch x_5) 24 j ch t), π) hP hS (by subst_vars; simp [vFd, up3_f, c_3]) d_Y_fade_68
