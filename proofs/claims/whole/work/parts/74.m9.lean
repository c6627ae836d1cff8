/-! The model: update, delete, block, record (printed by wip/gen/gen_m8.py) -/
set_option maxRecDepth 100000 in
set_option maxHeartbeats 4000000 in
theorem c_M_noteN2 {l : Launch} {D : va_G} {ca : Nat → ClassId} {ad : Nat → Nat} (hJ : uJ 22 ad) (w : Nat → Nat → Int32) (M : Nat) (hM : M = 64)  : uMv l y_M_note b_M_note 3 (none : Option Jvm.ClassFile.FieldType) 3 72 D clsAll (tysAll ca) 22 ad (mG ca ad) w [.ref (ad 0), .int (-1)] (fun u => u = mNn w M) := by
  refine uStart (by decide) (Nat.le_of_ble_eq_true rfl) ?_
  intro p e s m below meth c ls S hr hlk hK hN hP hl
  have hU : ∀ w ∈ uWS, w ∈ (Cond.code y_M_note b_M_note 3 (none : Option Jvm.ClassFile.FieldType) :: uWS) := fun w h => List.mem_cons_of_mem _ h
  have hS : va_S (uA 22 ad s.heap.size) s.heap s.heap [] := va_S.rf
  have hl : lv_has ls 3 [(0, .ref (ad 0)), (1, .int (-1))] := hl
  refine lv_iconst (v := 0) S.1 S.2.1 d_M_note_0 (by decide) ?_
  refine lv_istore_n (lv' := [(2, .int 0), (0, .ref (ad 0)), (1, .int (-1))]) S.1 S.2.1 d_M_note_1 rfl hl (by decide) rfl (fun ls hl => ?_)
  have L : ∀ i, i ≤ M → ∀ (H : Heap) (locs : List Loc) (ls : Array Slot), va_P D clsAll (uw 22 ad (mG ca ad (mNn w i))) H → va_S (uA 22 ad s.heap.size) s.heap H locs → lv_has ls 3 [(2, .int (nI i)), (0, .ref (ad 0)), (1, .int (-1))] → uGv 3 72 D clsAll 22 ad (mG ca ad) (fun u => u = mNn w M) [.ref (ad 0), .int (-1)] p l e s m below meth c H locs 2 ls [] := by
    refine upTo M ?_ ?_
    · intro H locs ls hP hS hl
      refine lv_iload_n S.1 S.2.1 d_M_note_2 rfl (lv_at hl 0 rfl) ?_
      refine lv_bipush (v := 64) S.1 S.2.1 d_M_note_3 (by decide) ?_
      refine lv_icmp_ge (tgt := 46) S.1 S.2.1 d_M_note_5 (by decide) (fun c_h => ?_) (fun c_h => ?_)
      · exact uVret S hr hlk (mNn w M) hP hS (rfl) d_M_note_46
      · exact absurd (by subst hM; exact nI_le (Nat.le_refl 64) (by decide)) c_h
    · intro i hi ih H locs ls hP hS hl
      refine lv_iload_n S.1 S.2.1 d_M_note_2 rfl (lv_at hl 0 rfl) ?_
      refine lv_bipush (v := 64) S.1 S.2.1 d_M_note_3 (by decide) ?_
      refine lv_icmp_ge (tgt := 46) S.1 S.2.1 d_M_note_5 (by decide) (fun c_h => ?_) (fun c_h => ?_)
      · exact absurd c_h (nI_ge (b := 64) (by omega) (by decide))
      · refine lv_aload_n S.1 S.2.1 d_M_note_8 rfl (lv_at hl 1 rfl) ?_
        refine ur_get (k := 0) (v := .ref (ad 11)) S hK hP (by decide) mg_obj rfl (fun w h => hU w (in_M w h)) 11 (by decide) (hU _ t3_171) rfl d_M_note_9 ?_
        refine lv_iload_n S.1 S.2.1 d_M_note_12 rfl (lv_at hl 0 rfl) ?_
        refine lv_iload_n S.1 S.2.1 d_M_note_13 rfl (lv_at hl 2 rfl) ?_
        refine lv_if_ge (tgt := 21) S.1 S.2.1 d_M_note_14 (by decide) (fun c_1 => ?_) (fun c_1 => ?_)
        · exact absurd c_1 (by decide)
        · refine lv_iconst (v := (-1)) S.1 S.2.1 d_M_note_17 (by decide) ?_
          refine lv_goto (tgt := 38) S.1 S.2.1 d_M_note_18 (by decide) ?_
          refine lv_i2s (v := s16 (-1)) S.1 S.2.1 d_M_note_38 rfl ?_
          refine ur_sast (k := 11) (n := 64) (f := ((mNn w i) 11)) (j := i) (g' := mG ca ad (up2 (mNn w i) 11 i (s16 (-1)))) S hK hP (uD _ hJ) hS (by decide) 4 (mg_arr 11 (by decide)) rfl rfl (by omega) (by decide) (s16_nar _) (ms_arr 11 (by decide) (by decide) (by decide)) d_M_note_39 (fun H locs hP hS => ?_)
          refine lv_iinc (v := nI (i + 1)) (lv' := [(2, .int (nI (i + 1))), (0, .ref (ad 0)), (1, .int (-1))]) S.1 S.2.1 d_M_note_40 hl (k := 0) rfl (nI_1 i) (by decide) rfl (fun ls hl => ?_)
          refine lv_goto (tgt := 2) S.1 S.2.1 d_M_note_43 (by decide) ?_
          exact ih _ _ ls (by rw [mNn]; exact hP) hS (lv_sub hl [0, 1, 2] rfl)
  exact L 0 (Nat.zero_le _) _ _ ls hP hS (lv_sub hl [0, 1, 2] rfl)

set_option maxRecDepth 100000 in
set_option maxHeartbeats 4000000 in
theorem c_M_keptMovesN2 {l : Launch} {D : va_G} {ca : Nat → ClassId} {ad : Nat → Nat} (hJ : uJ 22 ad) (w : Nat → Nat → Int32) (M : Nat) (hM : M = 64)  : uMi l y_M_keptMoves b_M_keptMoves 4 (some .int) 1 22 D clsAll (tysAll ca) 22 ad (mG ca ad) w [.ref (ad 0), .int (-1)] (fun r u => u = w ∧ r = 0) := by
  refine uStart (by decide) (Nat.le_of_ble_eq_true rfl) ?_
  intro p e s m below meth c ls S hr hlk hK hN hP hl
  have hU : ∀ w ∈ uWS, w ∈ (Cond.code y_M_keptMoves b_M_keptMoves 4 (some .int) :: uWS) := fun w h => List.mem_cons_of_mem _ h
  have hS : va_S (uA 22 ad s.heap.size) s.heap s.heap [] := va_S.rf
  have hl : lv_has ls 4 [(0, .ref (ad 0)), (1, .int (-1))] := hl
  refine lv_iconst (v := 0) S.1 S.2.1 d_M_keptMoves_0 (by decide) ?_
  refine lv_istore_n (lv' := [(2, .int 0), (0, .ref (ad 0)), (1, .int (-1))]) S.1 S.2.1 d_M_keptMoves_1 rfl hl (by decide) rfl (fun ls hl => ?_)
  refine lv_iconst (v := 0) S.1 S.2.1 d_M_keptMoves_2 (by decide) ?_
  refine lv_istore_n (lv' := [(3, .int 0), (2, .int 0), (0, .ref (ad 0)), (1, .int (-1))]) S.1 S.2.1 d_M_keptMoves_3 rfl hl (by decide) rfl (fun ls hl => ?_)
  refine lv_iload_n S.1 S.2.1 d_M_keptMoves_4 rfl (lv_at hl 0 rfl) ?_
  refine lv_bipush (v := 64) S.1 S.2.1 d_M_keptMoves_5 (by decide) ?_
  refine lv_icmp_ge (tgt := 48) S.1 S.2.1 d_M_keptMoves_7 (by decide) (fun c_h => ?_) (fun c_h => ?_)
  · exact absurd c_h (by decide)
  · refine lv_iload_n S.1 S.2.1 d_M_keptMoves_10 rfl (lv_at hl 3 rfl) ?_
    refine lv_if_lt (tgt := 48) S.1 S.2.1 d_M_keptMoves_11 (by decide) (fun c_1 => ?_) (fun c_1 => ?_)
    · refine lv_iload_n S.1 S.2.1 d_M_keptMoves_48 rfl (lv_at hl 1 rfl) ?_
      exact uIret S hr hlk w hP hS (⟨rfl, rfl⟩) d_M_keptMoves_49
    · exact absurd (by decide) c_1

theorem c_M_noteO {l : Launch} {D : va_G} {ca : Nat → ClassId} {ad : Nat → Nat} (hJ : uJ 22 ad) (w : Nat → Nat → Int32) (M : Nat) (hM : M = 64) (F : Nat) (hF : F = 40) (o : Option Nat) (ho : ∀ q, o = some q → q < 40) : uMv l y_M_note b_M_note 3 (none : Option Jvm.ClassFile.FieldType) 3 72 D clsAll (tysAll ca) 22 ad (mG ca ad) w [.ref (ad 0), .int (oI o)] (fun u => u = mNo w F M o) := by
  rcases o with _ | q
  · exact c_M_noteN2 hJ w M hM
  · exact c_M_noteS hJ w M hM F hF q (ho q rfl)

theorem c_M_keptMovesO {l : Launch} {D : va_G} {ca : Nat → ClassId} {ad : Nat → Nat} (hJ : uJ 22 ad) (w : Nat → Nat → Int32) (M : Nat) (hM : M = 64) (F : Nat) (hF : F = 40) (o : Option Nat) (ho : ∀ q, o = some q → q < 40) : uMi l y_M_keptMoves b_M_keptMoves 4 (some .int) 1 22 D clsAll (tysAll ca) 22 ad (mG ca ad) w [.ref (ad 0), .int (oI o)] (fun r u => u = w ∧ r = mKo w M o) := by
  rcases o with _ | q
  · exact c_M_keptMovesN2 hJ w M hM
  · exact c_M_keptMoves hJ w M hM q (ho q rfl)

set_option maxRecDepth 100000 in
set_option maxHeartbeats 4000000 in
theorem c_M_update {l : Launch} {D : va_G} {ca : Nat → ClassId} {ad : Nat → Nat} (hJ : uJ 22 ad) (w : Nat → Nat → Int32) (M : Nat) (hM : M = 64) (F : Nat) (hF : F = 40) (a b : Int32) : uMi l y_M_update b_M_update 9 (some .int) 3 67 D clsAll (tysAll ca) 22 ad (mG ca ad) w [.ref (ad 0), .int a, .int b] (fun r u => mUpP w a b F M r u) := by
  refine uStart (by decide) (Nat.le_of_ble_eq_true rfl) ?_
  intro p e s m below meth c ls S hr hlk hK hN hP hl
  have hU : ∀ w ∈ uWS, w ∈ (Cond.code y_M_update b_M_update 9 (some .int) :: uWS) := fun w h => List.mem_cons_of_mem _ h
  have hS : va_S (uA 22 ad s.heap.size) s.heap s.heap [] := va_S.rf
  have hl : lv_has ls 9 [(0, .ref (ad 0)), (1, .int a), (2, .int b)] := hl
  refine lv_aload_n S.1 S.2.1 d_M_update_0 rfl (lv_at hl 0 rfl) ?_
  refine lv_iload_n S.1 S.2.1 d_M_update_1 rfl (lv_at hl 1 rfl) ?_
  refine lv_iload_n S.1 S.2.1 d_M_update_2 rfl (lv_at hl 2 rfl) ?_
  refine uVi (n := 2) (b := 0) (As := [.int a, .int b]) (rest := []) S hK hN hP hS (c_M_has hJ w F hF a b) ⟨hU, t4_91, t4_88, t1_8, by decide +kernel, by decide, by decide⟩ t4_90 tp_29 (by decide) mg_obj rfl rfl rfl hl.1 rfl (Nat.le_of_ble_eq_true rfl) d_M_update_3 ⟨Nat.le_of_ble_eq_true rfl, Nat.le_of_ble_eq_true rfl⟩ (fun r u H locs hp hP hS => ?_)
  obtain ⟨hu, rfl⟩ := hp
  rw [hu] at hP
  refine lv_if_ne (tgt := 11) S.1 S.2.1 d_M_update_6 (by decide) (fun c_has => ?_) (fun c_has => ?_)
  · have c_has := pI_yes c_has
    rw [if_neg c_has] at hP
    refine lv_aload_n S.1 S.2.1 d_M_update_11 rfl (lv_at hl 0 rfl) ?_
    refine lv_iload_n S.1 S.2.1 d_M_update_12 rfl (lv_at hl 1 rfl) ?_
    refine lv_iload_n S.1 S.2.1 d_M_update_13 rfl (lv_at hl 2 rfl) ?_
    refine uVi (n := 2) (b := 0) (As := [.int a, .int b]) (rest := []) S hK hN hP hS (c_M_find hJ (up2 w 0 0 0) F hF a b) ⟨hU, t4_31, t4_28, t1_8, by decide +kernel, by decide, by decide⟩ t4_30 tp_15 (by decide) mg_obj rfl rfl rfl hl.1 rfl (Nat.le_of_ble_eq_true rfl) d_M_update_14 ⟨Nat.le_of_ble_eq_true rfl, Nat.le_of_ble_eq_true rfl⟩ (fun r u H locs hp hP hS => ?_)
    obtain ⟨hu, rfl⟩ := hp
    rw [hu] at hP
    rcases hF0 : mFnd (up2 w 0 0 0) a b F with _ | p0
    · exact absurd (by rw [← mFnd_0 (x := 0)]; exact hF0) c_has
    · have hp0 := mFnd_lt _ _ hF0
      refine lv_istore_n (lv' := [(3, .int (nI p0)), (0, .ref (ad 0)), (1, .int a), (2, .int b)]) S.1 S.2.1 d_M_update_17 rfl hl (by decide) rfl (fun ls hl => ?_)
      refine lv_iconst (v := 0) S.1 S.2.1 d_M_update_18 (by decide) ?_
      refine lv_istore (lv' := [(4, .int 0), (3, .int (nI p0)), (0, .ref (ad 0)), (1, .int a), (2, .int b)]) S.1 S.2.1 d_M_update_19 hl (by decide) rfl (fun ls hl => ?_)
      refine lv_iconst (v := 0) S.1 S.2.1 d_M_update_21 (by decide) ?_
      refine lv_istore (lv' := [(5, .int 0), (4, .int 0), (3, .int (nI p0)), (0, .ref (ad 0)), (1, .int a), (2, .int b)]) S.1 S.2.1 d_M_update_22 hl (by decide) rfl (fun ls hl => ?_)
      have L : ∀ i, i ≤ M → ∀ (H : Heap) (locs : List Loc) (ls : Array Slot), va_P D clsAll (uw 22 ad (mG ca ad (up2 w 0 0 0))) H → va_S (uA 22 ad s.heap.size) s.heap H locs → lv_has ls 9 [(5, .int (nI i)), (4, .int (mUc (up2 w 0 0 0) a b F i)), (3, .int (nI p0)), (0, .ref (ad 0)), (1, .int a), (2, .int b)] → uGi 3 67 D clsAll 22 ad (mG ca ad) (fun r u => mUpP w a b F M r u) [.ref (ad 0), .int a, .int b] p l e s m below meth c H locs 24 ls [] := by
        refine upTo M ?_ ?_
        · intro H locs ls hP hS hl
          refine lv_iload S.1 S.2.1 d_M_update_24 (lv_at hl 0 rfl) ?_
          refine lv_bipush (v := 64) S.1 S.2.1 d_M_update_26 (by decide) ?_
          refine lv_icmp_ge (tgt := 69) S.1 S.2.1 d_M_update_28 (by decide) (fun c_h1 => ?_) (fun c_h1 => ?_)
          · refine lv_aload_n S.1 S.2.1 d_M_update_69 rfl (lv_at hl 3 rfl) ?_
            refine lv_aload_n S.1 S.2.1 d_M_update_70 rfl (lv_at hl 3 rfl) ?_
            refine uVi (n := 0) (b := 0) (As := []) (rest := [.ref (ad 0)]) S hK hN hP hS (c_M_moveCount hJ (up2 w 0 0 0) M hM F hF) ⟨hU, t4_47, t4_44, t1_8, by decide +kernel, by decide, by decide⟩ t4_46 tp_19 (by decide) mg_obj rfl rfl rfl hl.1 rfl (Nat.le_of_ble_eq_true rfl) d_M_update_71 ⟨Nat.le_of_ble_eq_true rfl, Nat.le_of_ble_eq_true rfl⟩ (fun r u H locs hp hP hS => ?_)
            obtain ⟨hu, rfl⟩ := hp
            rw [hu] at hP
            refine lv_iload S.1 S.2.1 d_M_update_74 (lv_at hl 1 rfl) ?_
            refine lv_iadd S.1 S.2.1 d_M_update_76 ?_
            refine lv_sipush (v := 600) S.1 S.2.1 d_M_update_77 (by decide) ?_
            refine lv_icmp_le (tgt := 87) S.1 S.2.1 d_M_update_80 (by decide) (fun c_600 => ?_) (fun c_600 => ?_)
            · refine lv_iconst (v := 0) S.1 S.2.1 d_M_update_87 (by decide) ?_
              refine ur_put (k := 0) (v := .int 0) (g' := mG ca ad (up2 (up2 w 0 0 0) 0 0 0)) S hK hP (uD _ hJ) hS (by decide) mg_obj rfl (fun w h => hU w (in_M w h)) ty_M tyk_M nm_M 0 (by decide) (hU _ t3_160) rfl rfl rfl (Nat.le_of_ble_eq_true rfl) ms_thr d_M_update_88 (fun H locs hP hS => ?_)
              refine lv_aload_n S.1 S.2.1 d_M_update_91 rfl (lv_at hl 3 rfl) ?_
              refine ur_get (k := 0) (v := .int ((up2 (up2 w 0 0 0) 0 0 0) 0 0)) S hK hP (by decide) mg_obj rfl (fun w h => hU w (in_M w h)) 0 (by decide) (hU _ t3_160) rfl d_M_update_92 ?_
              rw [up2_s]
              refine lv_if_le (tgt := 100) S.1 S.2.1 d_M_update_95 (by decide) (fun c_1 => ?_) (fun c_1 => ?_)
              · refine lv_lconst (v := 0) S.1 S.2.1 d_M_update_100 (by decide) ?_
                refine lv_lstore (lv' := [(5, .long 0), (4, .int (mUc (up2 w 0 0 0) a b F M)), (3, .int (nI p0)), (0, .ref (ad 0)), (1, .int a), (2, .int b)]) S.1 S.2.1 d_M_update_101 hl (by decide) rfl (fun ls hl => ?_)
                refine lv_iconst (v := 0) S.1 S.2.1 d_M_update_103 (by decide) ?_
                refine lv_istore (lv' := [(7, .int 0), (5, .long 0), (4, .int (mUc (up2 w 0 0 0) a b F M)), (3, .int (nI p0)), (0, .ref (ad 0)), (1, .int a), (2, .int b)]) S.1 S.2.1 d_M_update_104 hl (by decide) rfl (fun ls hl => ?_)
                have L2 : ∀ i, i ≤ M → ∀ (H : Heap) (locs : List Loc) (ls : Array Slot), va_P D clsAll (uw 22 ad (mG ca ad (mUs (up2 (up2 w 0 0 0) 0 0 0) a b p0 F i))) H → va_S (uA 22 ad s.heap.size) s.heap H locs → lv_has ls 9 [(7, .int (nI i)), (5, .long (mUl (up2 (up2 w 0 0 0) 0 0 0) a b p0 F i)), (3, .int (nI p0)), (0, .ref (ad 0)), (1, .int a), (2, .int b)] → uGi 3 67 D clsAll 22 ad (mG ca ad) (fun r u => mUpP w a b F M r u) [.ref (ad 0), .int a, .int b] p l e s m below meth c H locs 106 ls [] := by
                  refine upTo M ?_ ?_
                  · intro H locs ls hP hS hl
                    refine lv_iload S.1 S.2.1 d_M_update_106 (lv_at hl 0 rfl) ?_
                    refine lv_bipush (v := 64) S.1 S.2.1 d_M_update_108 (by decide) ?_
                    refine lv_icmp_ge (tgt := 177) S.1 S.2.1 d_M_update_110 (by decide) (fun c_h2 => ?_) (fun c_h2 => ?_)
                    · refine lv_iconst (v := 0) S.1 S.2.1 d_M_update_177 (by decide) ?_
                      refine lv_istore (lv' := [(7, .int 0), (5, .long (mUl (up2 (up2 w 0 0 0) 0 0 0) a b p0 F M)), (3, .int (nI p0)), (0, .ref (ad 0)), (1, .int a), (2, .int b)]) S.1 S.2.1 d_M_update_178 hl (by decide) rfl (fun ls hl => ?_)
                      refine lv_iconst (v := 0) S.1 S.2.1 d_M_update_180 (by decide) ?_
                      refine lv_istore (lv' := [(8, .int 0), (7, .int 0), (5, .long (mUl (up2 (up2 w 0 0 0) 0 0 0) a b p0 F M)), (3, .int (nI p0)), (0, .ref (ad 0)), (1, .int a), (2, .int b)]) S.1 S.2.1 d_M_update_181 hl (by decide) rfl (fun ls hl => ?_)
                      have L3 : ∀ i, i ≤ F → ∀ (H : Heap) (locs : List Loc) (ls : Array Slot), va_P D clsAll (uw 22 ad (mG ca ad (mUs (up2 (up2 w 0 0 0) 0 0 0) a b p0 F M))) H → va_S (uA 22 ad s.heap.size) s.heap H locs → lv_has ls 9 [(8, .int (nI i)), (7, .int (mUb (mUl (up2 (up2 w 0 0 0) 0 0 0) a b p0 F M) i)), (5, .long (mUl (up2 (up2 w 0 0 0) 0 0 0) a b p0 F M)), (0, .ref (ad 0)), (1, .int a), (2, .int b)] → uGi 3 67 D clsAll 22 ad (mG ca ad) (fun r u => mUpP w a b F M r u) [.ref (ad 0), .int a, .int b] p l e s m below meth c H locs 183 ls [] := by
                        refine upTo F ?_ ?_
                        · intro H locs ls hP hS hl
                          refine lv_iload S.1 S.2.1 d_M_update_183 (lv_at hl 0 rfl) ?_
                          refine lv_bipush (v := 40) S.1 S.2.1 d_M_update_185 (by decide) ?_
                          refine lv_icmp_ge (tgt := 218) S.1 S.2.1 d_M_update_187 (by decide) (fun c_h3 => ?_) (fun c_h3 => ?_)
                          · refine lv_iload S.1 S.2.1 d_M_update_218 (lv_at hl 1 rfl) ?_
                            exact uIret S hr hlk (mUs (up2 (up2 w 0 0 0) 0 0 0) a b p0 F M) hP hS (by unfold mUpP; rw [if_neg c_has, hF0]; show ite _ _ _; rw [if_pos c_600]; exact ⟨rfl, rfl⟩) d_M_update_220
                          · exact absurd (by subst hF; exact nI_le (Nat.le_refl 40) (by decide)) c_h3
                        · intro i hi ih H locs ls hP hS hl
                          refine lv_iload S.1 S.2.1 d_M_update_183 (lv_at hl 0 rfl) ?_
                          refine lv_bipush (v := 40) S.1 S.2.1 d_M_update_185 (by decide) ?_
                          refine lv_icmp_ge (tgt := 218) S.1 S.2.1 d_M_update_187 (by decide) (fun c_h3 => ?_) (fun c_h3 => ?_)
                          · exact absurd c_h3 (nI_ge (b := 40) (by omega) (by decide))
                          · refine lv_iload S.1 S.2.1 d_M_update_190 (lv_at hl 1 rfl) ?_
                            refine lv_lload S.1 S.2.1 d_M_update_192 (lv_at hl 2 rfl) ?_
                            refine lv_iload S.1 S.2.1 d_M_update_194 (lv_at hl 0 rfl) ?_
                            refine lv_lshr (v := (mUl (up2 (up2 w 0 0 0) 0 0 0) a b p0 F M) >>> ((nI i).toInt64 &&& 63)) S.1 S.2.1 d_M_update_196 rfl ?_
                            refine lv_lconst (v := 1) S.1 S.2.1 d_M_update_197 (by decide) ?_
                            refine lv_land S.1 S.2.1 d_M_update_198 ?_
                            refine lv_lconst (v := 1) S.1 S.2.1 d_M_update_199 (by decide) ?_
                            refine W.lcmp S.1 S.2.1 d_M_update_200 ?_
                            refine lv_if_ne (tgt := 208) S.1 S.2.1 d_M_update_201 (by decide) (fun c_q => ?_) (fun c_q => ?_)
                            · refine lv_iconst (v := 0) S.1 S.2.1 d_M_update_208 (by decide) ?_
                              refine lv_iadd S.1 S.2.1 d_M_update_209 ?_
                              refine lv_topi (fun x_2 ex_2 => ?_)
                              refine lv_istore (lv' := [(7, .int x_2), (8, .int (nI i)), (5, .long (mUl (up2 (up2 w 0 0 0) 0 0 0) a b p0 F M)), (0, .ref (ad 0)), (1, .int a), (2, .int b)]) S.1 S.2.1 d_M_update_210 hl (by decide) rfl (fun ls hl => ?_)
                              refine lv_iinc (v := nI (i + 1)) (lv' := [(8, .int (nI (i + 1))), (7, .int x_2), (5, .long (mUl (up2 (up2 w 0 0 0) 0 0 0) a b p0 F M)), (0, .ref (ad 0)), (1, .int a), (2, .int b)]) S.1 S.2.1 d_M_update_212 hl (k := 1) rfl (nI_1 i) (by decide) rfl (fun ls hl => ?_)
                              refine lv_goto (tgt := 183) S.1 S.2.1 d_M_update_215 (by decide) ?_
                              exact ih _ _ ls hP hS (by rw [show mUb (mUl (up2 (up2 w 0 0 0) 0 0 0) a b p0 F M) (i + 1) = x_2 from by rw [ex_2, mUb, if_neg c_q]]; exact lv_sub hl [0, 1, 2, 3, 4, 5] rfl)
                            · refine lv_iconst (v := 1) S.1 S.2.1 d_M_update_204 (by decide) ?_
                              refine lv_goto (tgt := 209) S.1 S.2.1 d_M_update_205 (by decide) ?_
                              refine lv_iadd S.1 S.2.1 d_M_update_209 ?_
                              refine lv_topi (fun x_3 ex_3 => ?_)
                              refine lv_istore (lv' := [(7, .int x_3), (8, .int (nI i)), (5, .long (mUl (up2 (up2 w 0 0 0) 0 0 0) a b p0 F M)), (0, .ref (ad 0)), (1, .int a), (2, .int b)]) S.1 S.2.1 d_M_update_210 hl (by decide) rfl (fun ls hl => ?_)
                              refine lv_iinc (v := nI (i + 1)) (lv' := [(8, .int (nI (i + 1))), (7, .int x_3), (5, .long (mUl (up2 (up2 w 0 0 0) 0 0 0) a b p0 F M)), (0, .ref (ad 0)), (1, .int a), (2, .int b)]) S.1 S.2.1 d_M_update_212 hl (k := 1) rfl (nI_1 i) (by decide) rfl (fun ls hl => ?_)
                              refine lv_goto (tgt := 183) S.1 S.2.1 d_M_update_215 (by decide) ?_
                              exact ih _ _ ls hP hS (by rw [show mUb (mUl (up2 (up2 w 0 0 0) 0 0 0) a b p0 F M) (i + 1) = x_3 from by rw [ex_3, mUb, if_pos c_q]]; exact lv_sub hl [0, 1, 2, 3, 4, 5] rfl)
                      exact L3 0 (Nat.zero_le _) _ _ ls hP hS (lv_sub hl [0, 1, 2, 4, 5, 6] rfl)
                    · exact absurd (by subst hM; exact nI_le (Nat.le_refl 64) (by decide)) c_h2
                  · intro i hi ih H locs ls hP hS hl
                    refine lv_iload S.1 S.2.1 d_M_update_106 (lv_at hl 0 rfl) ?_
                    refine lv_bipush (v := 64) S.1 S.2.1 d_M_update_108 (by decide) ?_
                    refine lv_icmp_ge (tgt := 177) S.1 S.2.1 d_M_update_110 (by decide) (fun c_h2 => ?_) (fun c_h2 => ?_)
                    · exact absurd c_h2 (nI_ge (b := 64) (by omega) (by decide))
                    · refine lv_aload_n S.1 S.2.1 d_M_update_113 rfl (lv_at hl 3 rfl) ?_
                      refine ur_get (k := 0) (v := .ref (ad 2)) S hK hP (by decide) mg_obj rfl (fun w h => hU w (in_M w h)) 2 (by decide) (hU _ t3_162) rfl d_M_update_114 ?_
                      refine lv_iload S.1 S.2.1 d_M_update_117 (lv_at hl 0 rfl) ?_
                      refine ur_sald (k := 2) (n := 64) (f := ((mUs (up2 (up2 w 0 0 0) 0 0 0) a b p0 F i) 2)) (j := i) S hK hP (by decide) 4 (mg_arr 2 (by decide)) rfl rfl (by omega) (by decide) d_M_update_119 ?_
                      refine lv_iconst (v := (-1)) S.1 S.2.1 d_M_update_120 (by decide) ?_
                      refine lv_icmp_eq (tgt := 171) S.1 S.2.1 d_M_update_121 (by decide) (fun c_b => ?_) (fun c_b => ?_)
                      · refine lv_iinc (v := nI (i + 1)) (lv' := [(7, .int (nI (i + 1))), (5, .long (mUl (up2 (up2 w 0 0 0) 0 0 0) a b p0 F i)), (3, .int (nI p0)), (0, .ref (ad 0)), (1, .int a), (2, .int b)]) S.1 S.2.1 d_M_update_171 hl (k := 0) rfl (nI_1 i) (by decide) rfl (fun ls hl => ?_)
                        refine lv_goto (tgt := 106) S.1 S.2.1 d_M_update_174 (by decide) ?_
                        rw [show mUl (up2 (up2 w 0 0 0) 0 0 0) a b p0 F i = mUl (up2 (up2 w 0 0 0) 0 0 0) a b p0 F (i + 1) from by rw [mUl, if_pos c_b]] at hl
                        exact ih _ _ ls (by rw [mUs, if_pos c_b]; exact hP) hS (lv_sub hl [0, 1, 2, 3, 4, 5] rfl)
                      · refine lv_aload_n S.1 S.2.1 d_M_update_124 rfl (lv_at hl 3 rfl) ?_
                        refine lv_iload_n S.1 S.2.1 d_M_update_125 rfl (lv_at hl 4 rfl) ?_
                        refine lv_iload_n S.1 S.2.1 d_M_update_126 rfl (lv_at hl 5 rfl) ?_
                        refine lv_iload S.1 S.2.1 d_M_update_127 (lv_at hl 0 rfl) ?_
                        refine uVi (n := 3) (b := 0) (As := [.int a, .int b, .int (nI i)]) (rest := []) S hK hN hP hS (c_M_sourceOf hJ (mUs (up2 (up2 w 0 0 0) 0 0 0) a b p0 F i) F hF a b i (by omega)) ⟨hU, t4_67, t4_64, t1_8, by decide +kernel, by decide, by decide⟩ t4_66 tp_24 (by decide) mg_obj rfl rfl rfl hl.1 rfl (Nat.le_of_ble_eq_true rfl) d_M_update_129 ⟨Nat.le_of_ble_eq_true rfl, Nat.le_of_ble_eq_true rfl⟩ (fun r u H locs hp hP hS => ?_)
                        obtain ⟨hu, rfl⟩ := hp
                        rw [hu] at hP
                        rcases hX_4 : mSrc (mUs (up2 (up2 w 0 0 0) 0 0 0) a b p0 F i) a b i F with _ | p_5
                        · refine lv_istore (lv' := [(8, .int (-1)), (7, .int (nI i)), (5, .long (mUl (up2 (up2 w 0 0 0) 0 0 0) a b p0 F i)), (3, .int (nI p0)), (0, .ref (ad 0)), (1, .int a), (2, .int b)]) S.1 S.2.1 d_M_update_132 hl (by decide) rfl (fun ls hl => ?_)
                          refine lv_iload S.1 S.2.1 d_M_update_134 (lv_at hl 0 rfl) ?_
                          refine lv_if_ge (tgt := 143) S.1 S.2.1 d_M_update_136 (by decide) (fun c_6 => ?_) (fun c_6 => ?_)
                          · exact absurd c_6 (by decide)
                          · refine lv_iload_n S.1 S.2.1 d_M_update_139 rfl (lv_at hl 3 rfl) ?_
                            refine lv_goto (tgt := 145) S.1 S.2.1 d_M_update_140 (by decide) ?_
                            refine lv_istore (lv' := [(8, .int (nI p0)), (7, .int (nI i)), (5, .long (mUl (up2 (up2 w 0 0 0) 0 0 0) a b p0 F i)), (3, .int (nI p0)), (0, .ref (ad 0)), (1, .int a), (2, .int b)]) S.1 S.2.1 d_M_update_145 hl (by decide) rfl (fun ls hl => ?_)
                            refine lv_aload_n S.1 S.2.1 d_M_update_147 rfl (lv_at hl 4 rfl) ?_
                            refine lv_iload S.1 S.2.1 d_M_update_148 (lv_at hl 0 rfl) ?_
                            refine lv_iload S.1 S.2.1 d_M_update_150 (lv_at hl 1 rfl) ?_
                            refine lv_aload_n S.1 S.2.1 d_M_update_152 rfl (lv_at hl 4 rfl) ?_
                            refine ur_get (k := 0) (v := .ref (ad 2)) S hK hP (by decide) mg_obj rfl (fun w h => hU w (in_M w h)) 2 (by decide) (hU _ t3_162) rfl d_M_update_153 ?_
                            refine lv_iload S.1 S.2.1 d_M_update_156 (lv_at hl 1 rfl) ?_
                            refine ur_sald (k := 2) (n := 64) (f := ((mUs (up2 (up2 w 0 0 0) 0 0 0) a b p0 F i) 2)) (j := i) S hK hP (by decide) 4 (mg_arr 2 (by decide)) rfl rfl (by omega) (by decide) d_M_update_158 ?_
                            refine uVv (n := 3) (b := 0) (As := [.int (nI p0), .int (nI i), .int (((mUs (up2 (up2 w 0 0 0) 0 0 0) a b p0 F i) 2) i)]) (rest := []) S hK hN hP hS (c_M_put hJ (mUs (up2 (up2 w 0 0 0) 0 0 0) a b p0 F i) p0 i (by omega) (by omega) (((mUs (up2 (up2 w 0 0 0) 0 0 0) a b p0 F i) 2) i)) ⟨hU, t4_79, t4_76, t1_8, by decide +kernel, by decide, by decide⟩ t4_78 tp_27 (by decide) mg_obj rfl rfl rfl hl.1 rfl (Nat.le_of_ble_eq_true rfl) d_M_update_159 ⟨Nat.le_of_ble_eq_true rfl, Nat.le_of_ble_eq_true rfl⟩ (fun u H locs hp hP hS => ?_)
                            rw [hp] at hP
                            refine lv_lload S.1 S.2.1 d_M_update_162 (lv_at hl 2 rfl) ?_
                            refine lv_lconst (v := 1) S.1 S.2.1 d_M_update_164 (by decide) ?_
                            refine lv_iload S.1 S.2.1 d_M_update_165 (lv_at hl 0 rfl) ?_
                            refine lv_lshl S.1 S.2.1 d_M_update_167 rfl ?_
                            refine lv_lor S.1 S.2.1 d_M_update_168 ?_
                            refine lv_topl (fun x_7 ex_7 => ?_)
                            refine lv_lstore (lv' := [(5, .long x_7), (8, .int (nI p0)), (7, .int (nI i)), (3, .int (nI p0)), (0, .ref (ad 0)), (1, .int a), (2, .int b)]) S.1 S.2.1 d_M_update_169 hl (by decide) rfl (fun ls hl => ?_)
                            refine lv_iinc (v := nI (i + 1)) (lv' := [(7, .int (nI (i + 1))), (5, .long x_7), (8, .int (nI p0)), (3, .int (nI p0)), (0, .ref (ad 0)), (1, .int a), (2, .int b)]) S.1 S.2.1 d_M_update_171 hl (k := 2) rfl (nI_1 i) (by decide) rfl (fun ls hl => ?_)
                            refine lv_goto (tgt := 106) S.1 S.2.1 d_M_update_174 (by decide) ?_
                            rw [show x_7 = mUl (up2 (up2 w 0 0 0) 0 0 0) a b p0 F (i + 1) from by rw [ex_7, mUl, if_neg c_b, hX_4]; rfl] at hl
                            exact ih _ _ ls (by rw [mUs, if_neg c_b, hX_4]; exact hP) hS (lv_sub hl [0, 1, 3, 4, 5, 6] rfl)
                        · have hp_5 := mSrc_lt _ hX_4
                          refine lv_istore (lv' := [(8, .int (nI p_5)), (7, .int (nI i)), (5, .long (mUl (up2 (up2 w 0 0 0) 0 0 0) a b p0 F i)), (3, .int (nI p0)), (0, .ref (ad 0)), (1, .int a), (2, .int b)]) S.1 S.2.1 d_M_update_132 hl (by decide) rfl (fun ls hl => ?_)
                          refine lv_iload S.1 S.2.1 d_M_update_134 (lv_at hl 0 rfl) ?_
                          refine lv_if_ge (tgt := 143) S.1 S.2.1 d_M_update_136 (by decide) (fun c_8 => ?_) (fun c_8 => ?_)
                          · refine lv_iload S.1 S.2.1 d_M_update_143 (lv_at hl 0 rfl) ?_
                            refine lv_istore (lv' := [(8, .int (nI p_5)), (7, .int (nI i)), (5, .long (mUl (up2 (up2 w 0 0 0) 0 0 0) a b p0 F i)), (3, .int (nI p0)), (0, .ref (ad 0)), (1, .int a), (2, .int b)]) S.1 S.2.1 d_M_update_145 hl (by decide) rfl (fun ls hl => ?_)
                            refine lv_aload_n S.1 S.2.1 d_M_update_147 rfl (lv_at hl 4 rfl) ?_
                            refine lv_iload S.1 S.2.1 d_M_update_148 (lv_at hl 0 rfl) ?_
                            refine lv_iload S.1 S.2.1 d_M_update_150 (lv_at hl 1 rfl) ?_
                            refine lv_aload_n S.1 S.2.1 d_M_update_152 rfl (lv_at hl 4 rfl) ?_
                            refine ur_get (k := 0) (v := .ref (ad 2)) S hK hP (by decide) mg_obj rfl (fun w h => hU w (in_M w h)) 2 (by decide) (hU _ t3_162) rfl d_M_update_153 ?_
                            refine lv_iload S.1 S.2.1 d_M_update_156 (lv_at hl 1 rfl) ?_
                            refine ur_sald (k := 2) (n := 64) (f := ((mUs (up2 (up2 w 0 0 0) 0 0 0) a b p0 F i) 2)) (j := i) S hK hP (by decide) 4 (mg_arr 2 (by decide)) rfl rfl (by omega) (by decide) d_M_update_158 ?_
                            refine uVv (n := 3) (b := 0) (As := [.int (nI p_5), .int (nI i), .int (((mUs (up2 (up2 w 0 0 0) 0 0 0) a b p0 F i) 2) i)]) (rest := []) S hK hN hP hS (c_M_put hJ (mUs (up2 (up2 w 0 0 0) 0 0 0) a b p0 F i) p_5 i (by omega) (by omega) (((mUs (up2 (up2 w 0 0 0) 0 0 0) a b p0 F i) 2) i)) ⟨hU, t4_79, t4_76, t1_8, by decide +kernel, by decide, by decide⟩ t4_78 tp_27 (by decide) mg_obj rfl rfl rfl hl.1 rfl (Nat.le_of_ble_eq_true rfl) d_M_update_159 ⟨Nat.le_of_ble_eq_true rfl, Nat.le_of_ble_eq_true rfl⟩ (fun u H locs hp hP hS => ?_)
                            rw [hp] at hP
                            refine lv_lload S.1 S.2.1 d_M_update_162 (lv_at hl 2 rfl) ?_
                            refine lv_lconst (v := 1) S.1 S.2.1 d_M_update_164 (by decide) ?_
                            refine lv_iload S.1 S.2.1 d_M_update_165 (lv_at hl 0 rfl) ?_
                            refine lv_lshl S.1 S.2.1 d_M_update_167 rfl ?_
                            refine lv_lor S.1 S.2.1 d_M_update_168 ?_
                            refine lv_topl (fun x_9 ex_9 => ?_)
                            refine lv_lstore (lv' := [(5, .long x_9), (8, .int (nI p_5)), (7, .int (nI i)), (3, .int (nI p0)), (0, .ref (ad 0)), (1, .int a), (2, .int b)]) S.1 S.2.1 d_M_update_169 hl (by decide) rfl (fun ls hl => ?_)
                            refine lv_iinc (v := nI (i + 1)) (lv' := [(7, .int (nI (i + 1))), (5, .long x_9), (8, .int (nI p_5)), (3, .int (nI p0)), (0, .ref (ad 0)), (1, .int a), (2, .int b)]) S.1 S.2.1 d_M_update_171 hl (k := 2) rfl (nI_1 i) (by decide) rfl (fun ls hl => ?_)
                            refine lv_goto (tgt := 106) S.1 S.2.1 d_M_update_174 (by decide) ?_
                            rw [show x_9 = mUl (up2 (up2 w 0 0 0) 0 0 0) a b p0 F (i + 1) from by rw [ex_9, mUl, if_neg c_b, hX_4]; rfl] at hl
                            exact ih _ _ ls (by rw [mUs, if_neg c_b, hX_4]; exact hP) hS (lv_sub hl [0, 1, 3, 4, 5, 6] rfl)
                          · exact absurd (nI_pos' (by omega)) c_8
                exact L2 0 (Nat.zero_le _) _ _ ls hP hS (lv_sub hl [0, 1, 3, 4, 5, 6] rfl)
              · exact absurd (by decide) c_1
            · refine lv_iconst (v := 2) S.1 S.2.1 d_M_update_83 (by decide) ?_
              refine lv_goto (tgt := 88) S.1 S.2.1 d_M_update_84 (by decide) ?_
              refine ur_put (k := 0) (v := .int 2) (g' := mG ca ad (up2 (up2 w 0 0 0) 0 0 2)) S hK hP (uD _ hJ) hS (by decide) mg_obj rfl (fun w h => hU w (in_M w h)) ty_M tyk_M nm_M 0 (by decide) (hU _ t3_160) rfl rfl rfl (Nat.le_of_ble_eq_true rfl) ms_thr d_M_update_88 (fun H locs hP hS => ?_)
              refine lv_aload_n S.1 S.2.1 d_M_update_91 rfl (lv_at hl 3 rfl) ?_
              refine ur_get (k := 0) (v := .int ((up2 (up2 w 0 0 0) 0 0 2) 0 0)) S hK hP (by decide) mg_obj rfl (fun w h => hU w (in_M w h)) 0 (by decide) (hU _ t3_160) rfl d_M_update_92 ?_
              rw [up2_s]
              refine lv_if_le (tgt := 100) S.1 S.2.1 d_M_update_95 (by decide) (fun c_10 => ?_) (fun c_10 => ?_)
              · exact absurd c_10 (by decide)
              · refine lv_iconst (v := 0) S.1 S.2.1 d_M_update_98 (by decide) ?_
                exact uIret S hr hlk (up2 (up2 w 0 0 0) 0 0 2) hP hS (by unfold mUpP; rw [if_neg c_has, hF0]; show ite _ _ _; rw [if_neg c_600]; exact ⟨rfl, rfl⟩) d_M_update_99
          · exact absurd (by subst hM; exact nI_le (Nat.le_refl 64) (by decide)) c_h1
        · intro i hi ih H locs ls hP hS hl
          refine lv_iload S.1 S.2.1 d_M_update_24 (lv_at hl 0 rfl) ?_
          refine lv_bipush (v := 64) S.1 S.2.1 d_M_update_26 (by decide) ?_
          refine lv_icmp_ge (tgt := 69) S.1 S.2.1 d_M_update_28 (by decide) (fun c_h1 => ?_) (fun c_h1 => ?_)
          · exact absurd c_h1 (nI_ge (b := 64) (by omega) (by decide))
          · refine lv_iload S.1 S.2.1 d_M_update_31 (lv_at hl 1 rfl) ?_
            refine lv_aload_n S.1 S.2.1 d_M_update_33 rfl (lv_at hl 3 rfl) ?_
            refine ur_get (k := 0) (v := .ref (ad 2)) S hK hP (by decide) mg_obj rfl (fun w h => hU w (in_M w h)) 2 (by decide) (hU _ t3_162) rfl d_M_update_34 ?_
            refine lv_iload S.1 S.2.1 d_M_update_37 (lv_at hl 0 rfl) ?_
            refine ur_sald (k := 2) (n := 64) (f := ((up2 w 0 0 0) 2)) (j := i) S hK hP (by decide) 4 (mg_arr 2 (by decide)) rfl rfl (by omega) (by decide) d_M_update_39 ?_
            refine lv_iconst (v := (-1)) S.1 S.2.1 d_M_update_40 (by decide) ?_
            refine lv_icmp_eq (tgt := 59) S.1 S.2.1 d_M_update_41 (by decide) (fun c_v => ?_) (fun c_v => ?_)
            · refine lv_iconst (v := 0) S.1 S.2.1 d_M_update_59 (by decide) ?_
              refine lv_iadd S.1 S.2.1 d_M_update_60 ?_
              refine lv_topi (fun x_11 ex_11 => ?_)
              refine lv_istore (lv' := [(4, .int x_11), (5, .int (nI i)), (3, .int (nI p0)), (0, .ref (ad 0)), (1, .int a), (2, .int b)]) S.1 S.2.1 d_M_update_61 hl (by decide) rfl (fun ls hl => ?_)
              refine lv_iinc (v := nI (i + 1)) (lv' := [(5, .int (nI (i + 1))), (4, .int x_11), (3, .int (nI p0)), (0, .ref (ad 0)), (1, .int a), (2, .int b)]) S.1 S.2.1 d_M_update_63 hl (k := 1) rfl (nI_1 i) (by decide) rfl (fun ls hl => ?_)
              refine lv_goto (tgt := 24) S.1 S.2.1 d_M_update_66 (by decide) ?_
              exact ih _ _ ls hP hS (by rw [show mUc (up2 w 0 0 0) a b F (i + 1) = x_11 from by rw [ex_11, mUc, if_neg (fun z => z.1 c_v)]]; exact lv_sub hl [0, 1, 2, 3, 4, 5] rfl)
            · refine lv_aload_n S.1 S.2.1 d_M_update_44 rfl (lv_at hl 3 rfl) ?_
              refine lv_iload_n S.1 S.2.1 d_M_update_45 rfl (lv_at hl 4 rfl) ?_
              refine lv_iload_n S.1 S.2.1 d_M_update_46 rfl (lv_at hl 5 rfl) ?_
              refine lv_iload S.1 S.2.1 d_M_update_47 (lv_at hl 0 rfl) ?_
              refine uVi (n := 3) (b := 0) (As := [.int a, .int b, .int (nI i)]) (rest := [.int (mUc (up2 w 0 0 0) a b F i)]) S hK hN hP hS (c_M_sourceOf hJ (up2 w 0 0 0) F hF a b i (by omega)) ⟨hU, t4_67, t4_64, t1_8, by decide +kernel, by decide, by decide⟩ t4_66 tp_24 (by decide) mg_obj rfl rfl rfl hl.1 rfl (Nat.le_of_ble_eq_true rfl) d_M_update_49 ⟨Nat.le_of_ble_eq_true rfl, Nat.le_of_ble_eq_true rfl⟩ (fun r u H locs hp hP hS => ?_)
              obtain ⟨hu, rfl⟩ := hp
              rw [hu] at hP
              rcases hX_12 : mSrc (up2 w 0 0 0) a b i F with _ | p_13
              · refine lv_if_ge (tgt := 59) S.1 S.2.1 d_M_update_52 (by decide) (fun c_14 => ?_) (fun c_14 => ?_)
                · exact absurd c_14 (by decide)
                · refine lv_iconst (v := 1) S.1 S.2.1 d_M_update_55 (by decide) ?_
                  refine lv_goto (tgt := 60) S.1 S.2.1 d_M_update_56 (by decide) ?_
                  refine lv_iadd S.1 S.2.1 d_M_update_60 ?_
                  refine lv_topi (fun x_15 ex_15 => ?_)
                  refine lv_istore (lv' := [(4, .int x_15), (5, .int (nI i)), (3, .int (nI p0)), (0, .ref (ad 0)), (1, .int a), (2, .int b)]) S.1 S.2.1 d_M_update_61 hl (by decide) rfl (fun ls hl => ?_)
                  refine lv_iinc (v := nI (i + 1)) (lv' := [(5, .int (nI (i + 1))), (4, .int x_15), (3, .int (nI p0)), (0, .ref (ad 0)), (1, .int a), (2, .int b)]) S.1 S.2.1 d_M_update_63 hl (k := 1) rfl (nI_1 i) (by decide) rfl (fun ls hl => ?_)
                  refine lv_goto (tgt := 24) S.1 S.2.1 d_M_update_66 (by decide) ?_
                  exact ih _ _ ls hP hS (by rw [show mUc (up2 w 0 0 0) a b F (i + 1) = x_15 from by rw [ex_15, mUc, if_pos ⟨c_v, hX_12⟩]]; exact lv_sub hl [0, 1, 2, 3, 4, 5] rfl)
              · have hp_13 := mSrc_lt _ hX_12
                refine lv_if_ge (tgt := 59) S.1 S.2.1 d_M_update_52 (by decide) (fun c_16 => ?_) (fun c_16 => ?_)
                · refine lv_iconst (v := 0) S.1 S.2.1 d_M_update_59 (by decide) ?_
                  refine lv_iadd S.1 S.2.1 d_M_update_60 ?_
                  refine lv_topi (fun x_17 ex_17 => ?_)
                  refine lv_istore (lv' := [(4, .int x_17), (5, .int (nI i)), (3, .int (nI p0)), (0, .ref (ad 0)), (1, .int a), (2, .int b)]) S.1 S.2.1 d_M_update_61 hl (by decide) rfl (fun ls hl => ?_)
                  refine lv_iinc (v := nI (i + 1)) (lv' := [(5, .int (nI (i + 1))), (4, .int x_17), (3, .int (nI p0)), (0, .ref (ad 0)), (1, .int a), (2, .int b)]) S.1 S.2.1 d_M_update_63 hl (k := 1) rfl (nI_1 i) (by decide) rfl (fun ls hl => ?_)
                  refine lv_goto (tgt := 24) S.1 S.2.1 d_M_update_66 (by decide) ?_
                  exact ih _ _ ls hP hS (by rw [show mUc (up2 w 0 0 0) a b F (i + 1) = x_17 from by rw [ex_17, mUc, if_neg (fun z => by rw [hX_12] at z; exact nomatch z.2)]]; exact lv_sub hl [0, 1, 2, 3, 4, 5] rfl)
                · exact absurd (nI_pos' (by omega)) c_16
      exact L 0 (Nat.zero_le _) _ _ ls hP hS (lv_sub hl [0, 1, 2, 3, 4, 5] rfl)
  · have c_has := pI_no c_has
    rw [if_pos (Decidable.not_not.mp c_has)] at hP
    refine lv_iconst (v := 0) S.1 S.2.1 d_M_update_9 (by decide) ?_
    exact uIret S hr hlk (up2 w 0 0 1) hP hS (by unfold mUpP; rw [if_pos (Decidable.not_not.mp c_has)]; exact ⟨rfl, rfl⟩) d_M_update_10
