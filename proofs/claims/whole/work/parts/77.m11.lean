/-! The model: record (printed by wip/gen/gen_m10.py) -/
set_option maxRecDepth 100000 in
set_option maxHeartbeats 4000000 in
theorem c_M_record {l : Launch} {D : va_G} {ca : Nat → ClassId} {ad : Nat → Nat} (hJ : uJ 22 ad) (w : Nat → Nat → Int32) (M : Nat) (hM : M = 64) (F : Nat) (hF : F = 40) (a b x : Int32) : uMi l y_M_record b_M_record 8 (some .int) 4 94 D clsAll (tysAll ca) 22 ad (mG ca ad) w [.ref (ad 0), .int a, .int b, .int x] (fun r u => mRcP w a b x F M r u) := by
  refine uStart (by decide) (Nat.le_of_ble_eq_true rfl) ?_
  intro p e s m below meth c ls S hr hlk hK hN hP hl
  have hU : ∀ w ∈ uWS, w ∈ (Cond.code y_M_record b_M_record 8 (some .int) :: uWS) := fun w h => List.mem_cons_of_mem _ h
  have hS : va_S (uA 22 ad s.heap.size) s.heap s.heap [] := va_S.rf
  have hl : lv_has ls 8 [(0, .ref (ad 0)), (1, .int a), (2, .int b), (3, .int x)] := hl
  refine lv_aload_n S.1 S.2.1 d_M_record_0 rfl (lv_at hl 0 rfl) ?_
  refine lv_iload_n S.1 S.2.1 d_M_record_1 rfl (lv_at hl 1 rfl) ?_
  refine lv_if_lt (tgt := 25) S.1 S.2.1 d_M_record_2 (by decide) (fun c_a0 => ?_) (fun c_a0 => ?_)
  · refine lv_iconst (v := 1) S.1 S.2.1 d_M_record_25 (by decide) ?_
    refine ur_put (k := 0) (v := .int 1) (g' := mG ca ad (up2 w 0 0 1)) S hK hP (uD _ hJ) hS (by decide) mg_obj rfl (fun w h => hU w (in_M w h)) ty_M tyk_M nm_M 0 (by decide) (hU _ t3_160) rfl rfl rfl (Nat.le_of_ble_eq_true rfl) ms_thr d_M_record_26 (fun H locs hP hS => ?_)
    refine lv_aload_n S.1 S.2.1 d_M_record_29 rfl (lv_at hl 0 rfl) ?_
    refine ur_get (k := 0) (v := .int ((up2 w 0 0 1) 0 0)) S hK hP (by decide) mg_obj rfl (fun w h => hU w (in_M w h)) 0 (by decide) (hU _ t3_160) rfl d_M_record_30 ?_
    rw [up2_s]
    refine lv_if_le (tgt := 38) S.1 S.2.1 d_M_record_33 (by decide) (fun c_1 => ?_) (fun c_1 => ?_)
    · exact absurd c_1 (by decide)
    · refine lv_iconst (v := 0) S.1 S.2.1 d_M_record_36 (by decide) ?_
      exact uIret S hr hlk (up2 w 0 0 1) hP hS (by unfold mRcP; rw [if_neg (fun z => z.1 c_a0)]; exact ⟨rfl, rfl⟩) d_M_record_37
  · refine lv_iload_n S.1 S.2.1 d_M_record_5 rfl (lv_at hl 1 rfl) ?_
    refine lv_iconst (v := 4) S.1 S.2.1 d_M_record_6 (by decide) ?_
    refine lv_icmp_ge (tgt := 25) S.1 S.2.1 d_M_record_7 (by decide) (fun c_a4 => ?_) (fun c_a4 => ?_)
    · refine lv_iconst (v := 1) S.1 S.2.1 d_M_record_25 (by decide) ?_
      refine ur_put (k := 0) (v := .int 1) (g' := mG ca ad (up2 w 0 0 1)) S hK hP (uD _ hJ) hS (by decide) mg_obj rfl (fun w h => hU w (in_M w h)) ty_M tyk_M nm_M 0 (by decide) (hU _ t3_160) rfl rfl rfl (Nat.le_of_ble_eq_true rfl) ms_thr d_M_record_26 (fun H locs hP hS => ?_)
      refine lv_aload_n S.1 S.2.1 d_M_record_29 rfl (lv_at hl 0 rfl) ?_
      refine ur_get (k := 0) (v := .int ((up2 w 0 0 1) 0 0)) S hK hP (by decide) mg_obj rfl (fun w h => hU w (in_M w h)) 0 (by decide) (hU _ t3_160) rfl d_M_record_30 ?_
      rw [up2_s]
      refine lv_if_le (tgt := 38) S.1 S.2.1 d_M_record_33 (by decide) (fun c_2 => ?_) (fun c_2 => ?_)
      · exact absurd c_2 (by decide)
      · refine lv_iconst (v := 0) S.1 S.2.1 d_M_record_36 (by decide) ?_
        exact uIret S hr hlk (up2 w 0 0 1) hP hS (by unfold mRcP; rw [if_neg (fun z => z.2.1 c_a4)]; exact ⟨rfl, rfl⟩) d_M_record_37
    · refine lv_iload_n S.1 S.2.1 d_M_record_10 rfl (lv_at hl 2 rfl) ?_
      refine lv_if_le (tgt := 25) S.1 S.2.1 d_M_record_11 (by decide) (fun c_b0 => ?_) (fun c_b0 => ?_)
      · refine lv_iconst (v := 1) S.1 S.2.1 d_M_record_25 (by decide) ?_
        refine ur_put (k := 0) (v := .int 1) (g' := mG ca ad (up2 w 0 0 1)) S hK hP (uD _ hJ) hS (by decide) mg_obj rfl (fun w h => hU w (in_M w h)) ty_M tyk_M nm_M 0 (by decide) (hU _ t3_160) rfl rfl rfl (Nat.le_of_ble_eq_true rfl) ms_thr d_M_record_26 (fun H locs hP hS => ?_)
        refine lv_aload_n S.1 S.2.1 d_M_record_29 rfl (lv_at hl 0 rfl) ?_
        refine ur_get (k := 0) (v := .int ((up2 w 0 0 1) 0 0)) S hK hP (by decide) mg_obj rfl (fun w h => hU w (in_M w h)) 0 (by decide) (hU _ t3_160) rfl d_M_record_30 ?_
        rw [up2_s]
        refine lv_if_le (tgt := 38) S.1 S.2.1 d_M_record_33 (by decide) (fun c_3 => ?_) (fun c_3 => ?_)
        · exact absurd c_3 (by decide)
        · refine lv_iconst (v := 0) S.1 S.2.1 d_M_record_36 (by decide) ?_
          exact uIret S hr hlk (up2 w 0 0 1) hP hS (by unfold mRcP; rw [if_neg (fun z => z.2.2.1 c_b0)]; exact ⟨rfl, rfl⟩) d_M_record_37
      · refine lv_iload_n S.1 S.2.1 d_M_record_14 rfl (lv_at hl 2 rfl) ?_
        refine lv_sipush (v := 10000) S.1 S.2.1 d_M_record_15 (by decide) ?_
        refine lv_icmp_ge (tgt := 25) S.1 S.2.1 d_M_record_18 (by decide) (fun c_b9 => ?_) (fun c_b9 => ?_)
        · refine lv_iconst (v := 1) S.1 S.2.1 d_M_record_25 (by decide) ?_
          refine ur_put (k := 0) (v := .int 1) (g' := mG ca ad (up2 w 0 0 1)) S hK hP (uD _ hJ) hS (by decide) mg_obj rfl (fun w h => hU w (in_M w h)) ty_M tyk_M nm_M 0 (by decide) (hU _ t3_160) rfl rfl rfl (Nat.le_of_ble_eq_true rfl) ms_thr d_M_record_26 (fun H locs hP hS => ?_)
          refine lv_aload_n S.1 S.2.1 d_M_record_29 rfl (lv_at hl 0 rfl) ?_
          refine ur_get (k := 0) (v := .int ((up2 w 0 0 1) 0 0)) S hK hP (by decide) mg_obj rfl (fun w h => hU w (in_M w h)) 0 (by decide) (hU _ t3_160) rfl d_M_record_30 ?_
          rw [up2_s]
          refine lv_if_le (tgt := 38) S.1 S.2.1 d_M_record_33 (by decide) (fun c_4 => ?_) (fun c_4 => ?_)
          · exact absurd c_4 (by decide)
          · refine lv_iconst (v := 0) S.1 S.2.1 d_M_record_36 (by decide) ?_
            exact uIret S hr hlk (up2 w 0 0 1) hP hS (by unfold mRcP; rw [if_neg (fun z => z.2.2.2 c_b9)]; exact ⟨rfl, rfl⟩) d_M_record_37
        · refine lv_iconst (v := 0) S.1 S.2.1 d_M_record_21 (by decide) ?_
          refine lv_goto (tgt := 26) S.1 S.2.1 d_M_record_22 (by decide) ?_
          refine ur_put (k := 0) (v := .int 0) (g' := mG ca ad (up2 w 0 0 0)) S hK hP (uD _ hJ) hS (by decide) mg_obj rfl (fun w h => hU w (in_M w h)) ty_M tyk_M nm_M 0 (by decide) (hU _ t3_160) rfl rfl rfl (Nat.le_of_ble_eq_true rfl) ms_thr d_M_record_26 (fun H locs hP hS => ?_)
          refine lv_aload_n S.1 S.2.1 d_M_record_29 rfl (lv_at hl 0 rfl) ?_
          refine ur_get (k := 0) (v := .int ((up2 w 0 0 0) 0 0)) S hK hP (by decide) mg_obj rfl (fun w h => hU w (in_M w h)) 0 (by decide) (hU _ t3_160) rfl d_M_record_30 ?_
          rw [up2_s]
          refine lv_if_le (tgt := 38) S.1 S.2.1 d_M_record_33 (by decide) (fun c_5 => ?_) (fun c_5 => ?_)
          · refine lv_aload_n S.1 S.2.1 d_M_record_38 rfl (lv_at hl 0 rfl) ?_
            refine lv_iload_n S.1 S.2.1 d_M_record_39 rfl (lv_at hl 1 rfl) ?_
            refine lv_iload_n S.1 S.2.1 d_M_record_40 rfl (lv_at hl 2 rfl) ?_
            refine uVi (n := 2) (b := 0) (As := [.int a, .int b]) (rest := []) S hK hN hP hS (c_M_find hJ (up2 w 0 0 0) F hF a b) ⟨hU, t4_31, t4_28, t1_8, by decide +kernel, by decide, by decide⟩ t4_30 tp_15 (by decide) mg_obj rfl rfl rfl hl.1 rfl (Nat.le_of_ble_eq_true rfl) d_M_record_41 ⟨Nat.le_of_ble_eq_true rfl, Nat.le_of_ble_eq_true rfl⟩ (fun r u H locs hp hP hS => ?_)
            obtain ⟨hu, rfl⟩ := hp
            rw [hu] at hP
            rcases hF0 : mFnd (up2 w 0 0 0) a b F with _ | p0
            · refine lv_istore (lv' := [(4, .int (-1)), (0, .ref (ad 0)), (1, .int a), (2, .int b), (3, .int x)]) S.1 S.2.1 d_M_record_44 hl (by decide) rfl (fun ls hl => ?_)
              refine lv_iload_n S.1 S.2.1 d_M_record_46 rfl (lv_at hl 4 rfl) ?_
              refine lv_if_eq (tgt := 59) S.1 S.2.1 d_M_record_47 (by decide) (fun c_k => ?_) (fun c_k => ?_)
              · refine lv_iconst (v := (-1)) S.1 S.2.1 d_M_record_59 (by decide) ?_
                have hN0 : mNx (up2 w 0 0 0) a b x F = none := by rw [mNx, if_pos c_k]
                refine lv_istore (lv' := [(5, .int (-1)), (4, .int (-1)), (0, .ref (ad 0)), (1, .int a), (2, .int b), (3, .int x)]) S.1 S.2.1 d_M_record_60 hl (by decide) rfl (fun ls hl => ?_)
                refine lv_iconst (v := 0) S.1 S.2.1 d_M_record_62 (by decide) ?_
                refine lv_istore (lv' := [(6, .int 0), (5, .int (-1)), (4, .int (-1)), (0, .ref (ad 0)), (1, .int a), (2, .int b), (3, .int x)]) S.1 S.2.1 d_M_record_63 hl (by decide) rfl (fun ls hl => ?_)
                refine lv_iconst (v := 0) S.1 S.2.1 d_M_record_65 (by decide) ?_
                refine lv_istore (lv' := [(7, .int 0), (6, .int 0), (5, .int (-1)), (4, .int (-1)), (0, .ref (ad 0)), (1, .int a), (2, .int b), (3, .int x)]) S.1 S.2.1 d_M_record_66 hl (by decide) rfl (fun ls hl => ?_)
                have L : ∀ i, i ≤ M → ∀ (H : Heap) (locs : List Loc) (ls : Array Slot), va_P D clsAll (uw 22 ad (mG ca ad (up2 w 0 0 0))) H → va_S (uA 22 ad s.heap.size) s.heap H locs → lv_has ls 8 [(7, .int (nI i)), (6, .int (mPc (up2 w 0 0 0) i)), (5, .int (-1)), (4, .int (-1)), (0, .ref (ad 0)), (1, .int a), (2, .int b), (3, .int x)] → uGi 4 94 D clsAll 22 ad (mG ca ad) (fun r u => mRcP w a b x F M r u) [.ref (ad 0), .int a, .int b, .int x] p l e s m below meth c H locs 68 ls [] := by
                  refine upTo M ?_ ?_
                  · intro H locs ls hP hS hl
                    refine lv_iload S.1 S.2.1 d_M_record_68 (lv_at hl 0 rfl) ?_
                    refine lv_bipush (v := 64) S.1 S.2.1 d_M_record_70 (by decide) ?_
                    refine lv_icmp_ge (tgt := 119) S.1 S.2.1 d_M_record_72 (by decide) (fun c_h1 => ?_) (fun c_h1 => ?_)
                    · refine lv_aload_n S.1 S.2.1 d_M_record_119 rfl (lv_at hl 4 rfl) ?_
                      refine lv_iload S.1 S.2.1 d_M_record_120 (lv_at hl 3 rfl) ?_
                      refine lv_if_ge (tgt := 134) S.1 S.2.1 d_M_record_122 (by decide) (fun c_6 => ?_) (fun c_6 => ?_)
                      · exact absurd c_6 (by decide)
                      · refine lv_aload_n S.1 S.2.1 d_M_record_125 rfl (lv_at hl 4 rfl) ?_
                        refine uVi (n := 0) (b := 0) (As := []) (rest := [.ref (ad 0)]) S hK hN hP hS (c_M_cueCount hJ (up2 w 0 0 0) F hF) ⟨hU, t4_43, t4_40, t1_8, by decide +kernel, by decide, by decide⟩ t4_42 tp_18 (by decide) mg_obj rfl rfl rfl hl.1 rfl (Nat.le_of_ble_eq_true rfl) d_M_record_126 ⟨Nat.le_of_ble_eq_true rfl, Nat.le_of_ble_eq_true rfl⟩ (fun r u H locs hp hP hS => ?_)
                        obtain ⟨hu, rfl⟩ := hp
                        rw [hu] at hP
                        refine lv_bipush (v := 40) S.1 S.2.1 d_M_record_129 (by decide) ?_
                        refine lv_icmp_eq (tgt := 154) S.1 S.2.1 d_M_record_131 (by decide) (fun c_40 => ?_) (fun c_40 => ?_)
                        · refine lv_iconst (v := 2) S.1 S.2.1 d_M_record_154 (by decide) ?_
                          refine lv_goto (tgt := 159) S.1 S.2.1 d_M_record_155 (by decide) ?_
                          refine ur_put (k := 0) (v := .int 2) (g' := mG ca ad (up2 (up2 w 0 0 0) 0 0 2)) S hK hP (uD _ hJ) hS (by decide) mg_obj rfl (fun w h => hU w (in_M w h)) ty_M tyk_M nm_M 0 (by decide) (hU _ t3_160) rfl rfl rfl (Nat.le_of_ble_eq_true rfl) ms_thr d_M_record_159 (fun H locs hP hS => ?_)
                          refine lv_aload_n S.1 S.2.1 d_M_record_162 rfl (lv_at hl 4 rfl) ?_
                          refine ur_get (k := 0) (v := .int ((up2 (up2 w 0 0 0) 0 0 2) 0 0)) S hK hP (by decide) mg_obj rfl (fun w h => hU w (in_M w h)) 0 (by decide) (hU _ t3_160) rfl d_M_record_163 ?_
                          rw [up2_s]
                          refine lv_if_le (tgt := 171) S.1 S.2.1 d_M_record_166 (by decide) (fun c_7 => ?_) (fun c_7 => ?_)
                          · exact absurd c_7 (by decide)
                          · refine lv_iconst (v := 0) S.1 S.2.1 d_M_record_169 (by decide) ?_
                            exact uIret S hr hlk (up2 (up2 w 0 0 0) 0 0 2) hP hS (by unfold mRcP; rw [if_pos ⟨c_a0, c_a4, c_b0, c_b9⟩]; rw [if_pos (Or.inl ⟨hF0, c_40⟩)]; exact ⟨rfl, rfl⟩) d_M_record_170
                        · refine lv_aload_n S.1 S.2.1 d_M_record_134 rfl (lv_at hl 4 rfl) ?_
                          refine uVi (n := 0) (b := 0) (As := []) (rest := [.ref (ad 0)]) S hK hN hP hS (c_M_moveCount hJ (up2 w 0 0 0) M hM F hF) ⟨hU, t4_47, t4_44, t1_8, by decide +kernel, by decide, by decide⟩ t4_46 tp_19 (by decide) mg_obj rfl rfl rfl hl.1 rfl (Nat.le_of_ble_eq_true rfl) d_M_record_135 ⟨Nat.le_of_ble_eq_true rfl, Nat.le_of_ble_eq_true rfl⟩ (fun r u H locs hp hP hS => ?_)
                          obtain ⟨hu, rfl⟩ := hp
                          rw [hu] at hP
                          refine lv_iload S.1 S.2.1 d_M_record_138 (lv_at hl 1 rfl) ?_
                          refine lv_iadd S.1 S.2.1 d_M_record_140 ?_
                          refine lv_aload_n S.1 S.2.1 d_M_record_141 rfl (lv_at hl 4 rfl) ?_
                          refine lv_iload S.1 S.2.1 d_M_record_142 (lv_at hl 2 rfl) ?_
                          refine uVi (n := 1) (b := 0) (As := [.int (-1)]) (rest := [.int ((mMc (up2 w 0 0 0) M F) + (mPc (up2 w 0 0 0) M)), .ref (ad 0)]) S hK hN hP hS (c_M_keptMovesO hJ (up2 w 0 0 0) M hM F hF none (fun q h => nomatch h)) ⟨hU, t4_55, t4_52, t1_8, by decide +kernel, by decide, by decide⟩ t4_54 tp_21 (by decide) mg_obj rfl rfl rfl hl.1 rfl (Nat.le_of_ble_eq_true rfl) d_M_record_144 ⟨Nat.le_of_ble_eq_true rfl, Nat.le_of_ble_eq_true rfl⟩ (fun r u H locs hp hP hS => ?_)
                          obtain ⟨hu, rfl⟩ := hp
                          rw [hu] at hP
                          refine lv_iadd S.1 S.2.1 d_M_record_147 ?_
                          refine lv_sipush (v := 600) S.1 S.2.1 d_M_record_148 (by decide) ?_
                          refine lv_icmp_le (tgt := 158) S.1 S.2.1 d_M_record_151 (by decide) (fun c_600 => ?_) (fun c_600 => ?_)
                          · refine lv_iconst (v := 0) S.1 S.2.1 d_M_record_158 (by decide) ?_
                            refine ur_put (k := 0) (v := .int 0) (g' := mG ca ad (up2 (up2 w 0 0 0) 0 0 0)) S hK hP (uD _ hJ) hS (by decide) mg_obj rfl (fun w h => hU w (in_M w h)) ty_M tyk_M nm_M 0 (by decide) (hU _ t3_160) rfl rfl rfl (Nat.le_of_ble_eq_true rfl) ms_thr d_M_record_159 (fun H locs hP hS => ?_)
                            refine lv_aload_n S.1 S.2.1 d_M_record_162 rfl (lv_at hl 4 rfl) ?_
                            refine ur_get (k := 0) (v := .int ((up2 (up2 w 0 0 0) 0 0 0) 0 0)) S hK hP (by decide) mg_obj rfl (fun w h => hU w (in_M w h)) 0 (by decide) (hU _ t3_160) rfl d_M_record_163 ?_
                            rw [up2_s]
                            refine lv_if_le (tgt := 171) S.1 S.2.1 d_M_record_166 (by decide) (fun c_8 => ?_) (fun c_8 => ?_)
                            · refine lv_aload_n S.1 S.2.1 d_M_record_171 rfl (lv_at hl 4 rfl) ?_
                              refine lv_iload S.1 S.2.1 d_M_record_172 (lv_at hl 2 rfl) ?_
                              refine uVv (n := 1) (b := 0) (As := [.int (-1)]) (rest := []) S hK hN hP hS (c_M_noteO hJ (up2 (up2 w 0 0 0) 0 0 0) M hM F hF none (fun q h => nomatch h)) ⟨hU, t4_59, t4_56, t1_8, by decide +kernel, by decide, by decide⟩ t4_58 tp_22 (by decide) mg_obj rfl rfl rfl hl.1 rfl (Nat.le_of_ble_eq_true rfl) d_M_record_174 ⟨Nat.le_of_ble_eq_true rfl, Nat.le_of_ble_eq_true rfl⟩ (fun u H locs hp hP hS => ?_)
                              rw [hp] at hP
                              refine lv_iload S.1 S.2.1 d_M_record_177 (lv_at hl 3 rfl) ?_
                              refine lv_if_ge (tgt := 191) S.1 S.2.1 d_M_record_179 (by decide) (fun c_9 => ?_) (fun c_9 => ?_)
                              · exact absurd c_9 (by decide)
                              · refine lv_aload_n S.1 S.2.1 d_M_record_182 rfl (lv_at hl 4 rfl) ?_
                                refine lv_iload_n S.1 S.2.1 d_M_record_183 rfl (lv_at hl 5 rfl) ?_
                                refine lv_iload_n S.1 S.2.1 d_M_record_184 rfl (lv_at hl 6 rfl) ?_
                                rcases hs0 : mFre (up2 w 0 0 0) F with _ | s0
                                · exact absurd (by rw [mFre_none _ hs0, hF]; rfl) c_40
                                have hs1 := mFre_some _ _ hs0
                                refine uVi (n := 2) (b := 0) (As := [.int a, .int b]) (rest := []) S hK hN hP hS (c_M_make hJ (mNo (up2 (up2 w 0 0 0) 0 0 0) F M none) M hM a b s0 (by omega) (by rw [mNo_4]; exact hs1.2.1) (fun j hj => by rw [mNo_4]; exact hs1.2.2 j hj)) ⟨hU, t4_75, t4_72, t1_8, by decide +kernel, by decide, by decide⟩ t4_74 tp_26 (by decide) mg_obj rfl rfl rfl hl.1 rfl (Nat.le_of_ble_eq_true rfl) d_M_record_185 ⟨Nat.le_of_ble_eq_true rfl, Nat.le_of_ble_eq_true rfl⟩ (fun r u H locs hp hP hS => ?_)
                                obtain ⟨hu, rfl⟩ := hp
                                rw [hu] at hP
                                refine lv_goto (tgt := 193) S.1 S.2.1 d_M_record_188 (by decide) ?_
                                refine lv_istore (lv' := [(4, .int (nI s0)), (7, .int (nI M)), (6, .int (mPc (up2 w 0 0 0) M)), (5, .int (-1)), (0, .ref (ad 0)), (1, .int a), (2, .int b), (3, .int x)]) S.1 S.2.1 d_M_record_193 hl (by decide) rfl (fun ls hl => ?_)
                                refine lv_iconst (v := 0) S.1 S.2.1 d_M_record_195 (by decide) ?_
                                refine lv_istore (lv' := [(7, .int 0), (4, .int (nI s0)), (6, .int (mPc (up2 w 0 0 0) M)), (5, .int (-1)), (0, .ref (ad 0)), (1, .int a), (2, .int b), (3, .int x)]) S.1 S.2.1 d_M_record_196 hl (by decide) rfl (fun ls hl => ?_)
                                have L2 : ∀ i, i ≤ M → ∀ (H : Heap) (locs : List Loc) (ls : Array Slot), va_P D clsAll (uw 22 ad (mG ca ad (mRp (mMk (mNo (up2 (up2 w 0 0 0) 0 0 0) F M none) a b s0 M) s0 none i))) H → va_S (uA 22 ad s.heap.size) s.heap H locs → lv_has ls 8 [(7, .int (nI i)), (5, .int (-1)), (4, .int (nI s0)), (0, .ref (ad 0)), (1, .int a), (2, .int b), (3, .int x)] → uGi 4 94 D clsAll 22 ad (mG ca ad) (fun r u => mRcP w a b x F M r u) [.ref (ad 0), .int a, .int b, .int x] p l e s m below meth c H locs 198 ls [] := by
                                  refine upTo M ?_ ?_
                                  · intro H locs ls hP hS hl
                                    refine lv_iload S.1 S.2.1 d_M_record_198 (lv_at hl 0 rfl) ?_
                                    refine lv_bipush (v := 64) S.1 S.2.1 d_M_record_200 (by decide) ?_
                                    refine lv_icmp_ge (tgt := 250) S.1 S.2.1 d_M_record_202 (by decide) (fun c_h2 => ?_) (fun c_h2 => ?_)
                                    · refine lv_aload_n S.1 S.2.1 d_M_record_250 rfl (lv_at hl 3 rfl) ?_
                                      refine lv_iload S.1 S.2.1 d_M_record_251 (lv_at hl 2 rfl) ?_
                                      refine uVi (n := 1) (b := 0) (As := [.int (nI s0)]) (rest := []) S hK hN hP hS (c_M_movesOf hJ (mRp (mMk (mNo (up2 (up2 w 0 0 0) 0 0 0) F M none) a b s0 M) s0 none M) M hM s0 (by omega)) ⟨hU, t4_51, t4_48, t1_8, by decide +kernel, by decide, by decide⟩ t4_50 tp_20 (by decide) mg_obj rfl rfl rfl hl.1 rfl (Nat.le_of_ble_eq_true rfl) d_M_record_253 ⟨Nat.le_of_ble_eq_true rfl, Nat.le_of_ble_eq_true rfl⟩ (fun r u H locs hp hP hS => ?_)
                                      obtain ⟨hu, rfl⟩ := hp
                                      rw [hu] at hP
                                      exact uIret S hr hlk (mRp (mMk (mNo (up2 (up2 w 0 0 0) 0 0 0) F M none) a b s0 M) s0 none M) hP hS (by unfold mRcP; rw [if_pos ⟨c_a0, c_a4, c_b0, c_b9⟩]; rw [if_neg (fun z => z.elim (fun y => c_40 y.2) (fun y => y (by rw [hF0, hN0]; exact c_600))), hF0, hN0]; show _ ∧ _; rw [hs0]; exact ⟨rfl, rfl⟩) d_M_record_256
                                    · exact absurd (by subst hM; exact nI_le (Nat.le_refl 64) (by decide)) c_h2
                                  · intro i hi ih H locs ls hP hS hl
                                    refine lv_iload S.1 S.2.1 d_M_record_198 (lv_at hl 0 rfl) ?_
                                    refine lv_bipush (v := 64) S.1 S.2.1 d_M_record_200 (by decide) ?_
                                    refine lv_icmp_ge (tgt := 250) S.1 S.2.1 d_M_record_202 (by decide) (fun c_h2 => ?_) (fun c_h2 => ?_)
                                    · exact absurd c_h2 (nI_ge (b := 64) (by omega) (by decide))
                                    · refine lv_aload_n S.1 S.2.1 d_M_record_205 rfl (lv_at hl 3 rfl) ?_
                                      refine ur_get (k := 0) (v := .ref (ad 2)) S hK hP (by decide) mg_obj rfl (fun w h => hU w (in_M w h)) 2 (by decide) (hU _ t3_162) rfl d_M_record_206 ?_
                                      refine lv_iload S.1 S.2.1 d_M_record_209 (lv_at hl 0 rfl) ?_
                                      refine ur_sald (k := 2) (n := 64) (f := ((mRp (mMk (mNo (up2 (up2 w 0 0 0) 0 0 0) F M none) a b s0 M) s0 none i) 2)) (j := i) S hK hP (by decide) 4 (mg_arr 2 (by decide)) rfl rfl (by omega) (by decide) d_M_record_211 ?_
                                      refine lv_iconst (v := (-1)) S.1 S.2.1 d_M_record_212 (by decide) ?_
                                      refine lv_icmp_eq (tgt := 244) S.1 S.2.1 d_M_record_213 (by decide) (fun c_b => ?_) (fun c_b => ?_)
                                      · refine lv_iinc (v := nI (i + 1)) (lv' := [(7, .int (nI (i + 1))), (5, .int (-1)), (4, .int (nI s0)), (0, .ref (ad 0)), (1, .int a), (2, .int b), (3, .int x)]) S.1 S.2.1 d_M_record_244 hl (k := 0) rfl (nI_1 i) (by decide) rfl (fun ls hl => ?_)
                                        refine lv_goto (tgt := 198) S.1 S.2.1 d_M_record_247 (by decide) ?_
                                        exact ih _ _ ls (by rw [mRp, if_pos c_b]; exact hP) hS (lv_sub hl [0, 1, 2, 3, 4, 5, 6] rfl)
                                      · refine lv_aload_n S.1 S.2.1 d_M_record_216 rfl (lv_at hl 3 rfl) ?_
                                        refine lv_iload S.1 S.2.1 d_M_record_217 (lv_at hl 2 rfl) ?_
                                        refine lv_iload S.1 S.2.1 d_M_record_219 (lv_at hl 0 rfl) ?_
                                        refine lv_aload_n S.1 S.2.1 d_M_record_221 rfl (lv_at hl 3 rfl) ?_
                                        refine ur_get (k := 0) (v := .ref (ad 2)) S hK hP (by decide) mg_obj rfl (fun w h => hU w (in_M w h)) 2 (by decide) (hU _ t3_162) rfl d_M_record_222 ?_
                                        refine lv_iload S.1 S.2.1 d_M_record_225 (lv_at hl 0 rfl) ?_
                                        refine ur_sald (k := 2) (n := 64) (f := ((mRp (mMk (mNo (up2 (up2 w 0 0 0) 0 0 0) F M none) a b s0 M) s0 none i) 2)) (j := i) S hK hP (by decide) 4 (mg_arr 2 (by decide)) rfl rfl (by omega) (by decide) d_M_record_227 ?_
                                        refine uVv (n := 3) (b := 0) (As := [.int (nI s0), .int (nI i), .int (((mRp (mMk (mNo (up2 (up2 w 0 0 0) 0 0 0) F M none) a b s0 M) s0 none i) 2) i)]) (rest := []) S hK hN hP hS (c_M_put hJ (mRp (mMk (mNo (up2 (up2 w 0 0 0) 0 0 0) F M none) a b s0 M) s0 none i) s0 i (by omega) (by omega) (((mRp (mMk (mNo (up2 (up2 w 0 0 0) 0 0 0) F M none) a b s0 M) s0 none i) 2) i)) ⟨hU, t4_79, t4_76, t1_8, by decide +kernel, by decide, by decide⟩ t4_78 tp_27 (by decide) mg_obj rfl rfl rfl hl.1 rfl (Nat.le_of_ble_eq_true rfl) d_M_record_228 ⟨Nat.le_of_ble_eq_true rfl, Nat.le_of_ble_eq_true rfl⟩ (fun u H locs hp hP hS => ?_)
                                        rw [hp] at hP
                                        refine lv_iload S.1 S.2.1 d_M_record_231 (lv_at hl 1 rfl) ?_
                                        refine lv_if_lt (tgt := 244) S.1 S.2.1 d_M_record_233 (by decide) (fun c_10 => ?_) (fun c_10 => ?_)
                                        · refine lv_iinc (v := nI (i + 1)) (lv' := [(7, .int (nI (i + 1))), (5, .int (-1)), (4, .int (nI s0)), (0, .ref (ad 0)), (1, .int a), (2, .int b), (3, .int x)]) S.1 S.2.1 d_M_record_244 hl (k := 0) rfl (nI_1 i) (by decide) rfl (fun ls hl => ?_)
                                          refine lv_goto (tgt := 198) S.1 S.2.1 d_M_record_247 (by decide) ?_
                                          exact ih _ _ ls (by rw [mRp, if_neg c_b]; exact hP) hS (lv_sub hl [0, 1, 2, 3, 4, 5, 6] rfl)
                                        · exact absurd (by decide) c_10
                                exact L2 0 (Nat.zero_le _) _ _ ls hP hS (lv_sub hl [0, 3, 1, 4, 5, 6, 7] rfl)
                            · exact absurd (by decide) c_8
                          · refine lv_iconst (v := 2) S.1 S.2.1 d_M_record_154 (by decide) ?_
                            refine lv_goto (tgt := 159) S.1 S.2.1 d_M_record_155 (by decide) ?_
                            refine ur_put (k := 0) (v := .int 2) (g' := mG ca ad (up2 (up2 w 0 0 0) 0 0 2)) S hK hP (uD _ hJ) hS (by decide) mg_obj rfl (fun w h => hU w (in_M w h)) ty_M tyk_M nm_M 0 (by decide) (hU _ t3_160) rfl rfl rfl (Nat.le_of_ble_eq_true rfl) ms_thr d_M_record_159 (fun H locs hP hS => ?_)
                            refine lv_aload_n S.1 S.2.1 d_M_record_162 rfl (lv_at hl 4 rfl) ?_
                            refine ur_get (k := 0) (v := .int ((up2 (up2 w 0 0 0) 0 0 2) 0 0)) S hK hP (by decide) mg_obj rfl (fun w h => hU w (in_M w h)) 0 (by decide) (hU _ t3_160) rfl d_M_record_163 ?_
                            rw [up2_s]
                            refine lv_if_le (tgt := 171) S.1 S.2.1 d_M_record_166 (by decide) (fun c_11 => ?_) (fun c_11 => ?_)
                            · exact absurd c_11 (by decide)
                            · refine lv_iconst (v := 0) S.1 S.2.1 d_M_record_169 (by decide) ?_
                              exact uIret S hr hlk (up2 (up2 w 0 0 0) 0 0 2) hP hS (by unfold mRcP; rw [if_pos ⟨c_a0, c_a4, c_b0, c_b9⟩]; rw [if_pos (Or.inr (by rw [hF0, hN0]; exact c_600))]; exact ⟨rfl, rfl⟩) d_M_record_170
                    · exact absurd (by subst hM; exact nI_le (Nat.le_refl 64) (by decide)) c_h1
                  · intro i hi ih H locs ls hP hS hl
                    refine lv_iload S.1 S.2.1 d_M_record_68 (lv_at hl 0 rfl) ?_
                    refine lv_bipush (v := 64) S.1 S.2.1 d_M_record_70 (by decide) ?_
                    refine lv_icmp_ge (tgt := 119) S.1 S.2.1 d_M_record_72 (by decide) (fun c_h1 => ?_) (fun c_h1 => ?_)
                    · exact absurd c_h1 (nI_ge (b := 64) (by omega) (by decide))
                    · refine lv_iload S.1 S.2.1 d_M_record_75 (lv_at hl 1 rfl) ?_
                      refine lv_aload_n S.1 S.2.1 d_M_record_77 rfl (lv_at hl 4 rfl) ?_
                      refine ur_get (k := 0) (v := .ref (ad 2)) S hK hP (by decide) mg_obj rfl (fun w h => hU w (in_M w h)) 2 (by decide) (hU _ t3_162) rfl d_M_record_78 ?_
                      refine lv_iload S.1 S.2.1 d_M_record_81 (lv_at hl 0 rfl) ?_
                      refine ur_sald (k := 2) (n := 64) (f := ((up2 w 0 0 0) 2)) (j := i) S hK hP (by decide) 4 (mg_arr 2 (by decide)) rfl rfl (by omega) (by decide) d_M_record_83 ?_
                      refine lv_iconst (v := (-1)) S.1 S.2.1 d_M_record_84 (by decide) ?_
                      refine lv_icmp_eq (tgt := 109) S.1 S.2.1 d_M_record_85 (by decide) (fun c_v => ?_) (fun c_v => ?_)
                      · refine lv_iconst (v := 0) S.1 S.2.1 d_M_record_109 (by decide) ?_
                        refine lv_iadd S.1 S.2.1 d_M_record_110 ?_
                        refine lv_topi (fun x_12 ex_12 => ?_)
                        refine lv_istore (lv' := [(6, .int x_12), (7, .int (nI i)), (5, .int (-1)), (4, .int (-1)), (0, .ref (ad 0)), (1, .int a), (2, .int b), (3, .int x)]) S.1 S.2.1 d_M_record_111 hl (by decide) rfl (fun ls hl => ?_)
                        refine lv_iinc (v := nI (i + 1)) (lv' := [(7, .int (nI (i + 1))), (6, .int x_12), (5, .int (-1)), (4, .int (-1)), (0, .ref (ad 0)), (1, .int a), (2, .int b), (3, .int x)]) S.1 S.2.1 d_M_record_113 hl (k := 1) rfl (nI_1 i) (by decide) rfl (fun ls hl => ?_)
                        refine lv_goto (tgt := 68) S.1 S.2.1 d_M_record_116 (by decide) ?_
                        exact ih _ _ ls hP hS (by rw [show mPc (up2 w 0 0 0) (i + 1) = x_12 from by rw [ex_12, mPc, if_pos c_v]]; exact lv_sub hl [0, 1, 2, 3, 4, 5, 6, 7] rfl)
                      · refine lv_iload S.1 S.2.1 d_M_record_88 (lv_at hl 3 rfl) ?_
                        refine lv_if_lt (tgt := 105) S.1 S.2.1 d_M_record_90 (by decide) (fun c_13 => ?_) (fun c_13 => ?_)
                        · refine lv_iconst (v := 1) S.1 S.2.1 d_M_record_105 (by decide) ?_
                          refine lv_goto (tgt := 110) S.1 S.2.1 d_M_record_106 (by decide) ?_
                          refine lv_iadd S.1 S.2.1 d_M_record_110 ?_
                          refine lv_topi (fun x_14 ex_14 => ?_)
                          refine lv_istore (lv' := [(6, .int x_14), (7, .int (nI i)), (5, .int (-1)), (4, .int (-1)), (0, .ref (ad 0)), (1, .int a), (2, .int b), (3, .int x)]) S.1 S.2.1 d_M_record_111 hl (by decide) rfl (fun ls hl => ?_)
                          refine lv_iinc (v := nI (i + 1)) (lv' := [(7, .int (nI (i + 1))), (6, .int x_14), (5, .int (-1)), (4, .int (-1)), (0, .ref (ad 0)), (1, .int a), (2, .int b), (3, .int x)]) S.1 S.2.1 d_M_record_113 hl (k := 1) rfl (nI_1 i) (by decide) rfl (fun ls hl => ?_)
                          refine lv_goto (tgt := 68) S.1 S.2.1 d_M_record_116 (by decide) ?_
                          exact ih _ _ ls hP hS (by rw [show mPc (up2 w 0 0 0) (i + 1) = x_14 from by rw [ex_14, mPc, if_neg c_v]]; exact lv_sub hl [0, 1, 2, 3, 4, 5, 6, 7] rfl)
                        · exact absurd (by decide) c_13
                exact L 0 (Nat.zero_le _) _ _ ls hP hS (lv_sub hl [0, 1, 2, 3, 4, 5, 6, 7] rfl)
              · refine lv_aload_n S.1 S.2.1 d_M_record_50 rfl (lv_at hl 1 rfl) ?_
                refine lv_iload_n S.1 S.2.1 d_M_record_51 rfl (lv_at hl 2 rfl) ?_
                refine lv_iload_n S.1 S.2.1 d_M_record_52 rfl (lv_at hl 3 rfl) ?_
                refine uVi (n := 2) (b := 0) (As := [.int a, .int b]) (rest := []) S hK hN hP hS (c_M_above hJ (up2 w 0 0 0) F hF a b) ⟨hU, t4_35, t4_32, t1_8, by decide +kernel, by decide, by decide⟩ t4_34 tp_16 (by decide) mg_obj rfl rfl rfl hl.1 rfl (Nat.le_of_ble_eq_true rfl) d_M_record_53 ⟨Nat.le_of_ble_eq_true rfl, Nat.le_of_ble_eq_true rfl⟩ (fun r u H locs hp hP hS => ?_)
                obtain ⟨hu, rfl⟩ := hp
                rw [hu] at hP
                refine lv_goto (tgt := 60) S.1 S.2.1 d_M_record_56 (by decide) ?_
                rcases hX0 : mAbv (up2 w 0 0 0) a b F with _ | px
                · have hN0 : mNx (up2 w 0 0 0) a b x F = none := by rw [mNx, if_neg c_k, hX0]
                  refine lv_istore (lv' := [(5, .int (-1)), (4, .int (-1)), (0, .ref (ad 0)), (1, .int a), (2, .int b), (3, .int x)]) S.1 S.2.1 d_M_record_60 hl (by decide) rfl (fun ls hl => ?_)
                  refine lv_iconst (v := 0) S.1 S.2.1 d_M_record_62 (by decide) ?_
                  refine lv_istore (lv' := [(6, .int 0), (5, .int (-1)), (4, .int (-1)), (0, .ref (ad 0)), (1, .int a), (2, .int b), (3, .int x)]) S.1 S.2.1 d_M_record_63 hl (by decide) rfl (fun ls hl => ?_)
                  refine lv_iconst (v := 0) S.1 S.2.1 d_M_record_65 (by decide) ?_
                  refine lv_istore (lv' := [(7, .int 0), (6, .int 0), (5, .int (-1)), (4, .int (-1)), (0, .ref (ad 0)), (1, .int a), (2, .int b), (3, .int x)]) S.1 S.2.1 d_M_record_66 hl (by decide) rfl (fun ls hl => ?_)
                  have L : ∀ i, i ≤ M → ∀ (H : Heap) (locs : List Loc) (ls : Array Slot), va_P D clsAll (uw 22 ad (mG ca ad (up2 w 0 0 0))) H → va_S (uA 22 ad s.heap.size) s.heap H locs → lv_has ls 8 [(7, .int (nI i)), (6, .int (mPc (up2 w 0 0 0) i)), (5, .int (-1)), (4, .int (-1)), (0, .ref (ad 0)), (1, .int a), (2, .int b), (3, .int x)] → uGi 4 94 D clsAll 22 ad (mG ca ad) (fun r u => mRcP w a b x F M r u) [.ref (ad 0), .int a, .int b, .int x] p l e s m below meth c H locs 68 ls [] := by
                    refine upTo M ?_ ?_
                    · intro H locs ls hP hS hl
                      refine lv_iload S.1 S.2.1 d_M_record_68 (lv_at hl 0 rfl) ?_
                      refine lv_bipush (v := 64) S.1 S.2.1 d_M_record_70 (by decide) ?_
                      refine lv_icmp_ge (tgt := 119) S.1 S.2.1 d_M_record_72 (by decide) (fun c_h1 => ?_) (fun c_h1 => ?_)
                      · refine lv_aload_n S.1 S.2.1 d_M_record_119 rfl (lv_at hl 4 rfl) ?_
                        refine lv_iload S.1 S.2.1 d_M_record_120 (lv_at hl 3 rfl) ?_
                        refine lv_if_ge (tgt := 134) S.1 S.2.1 d_M_record_122 (by decide) (fun c_15 => ?_) (fun c_15 => ?_)
                        · exact absurd c_15 (by decide)
                        · refine lv_aload_n S.1 S.2.1 d_M_record_125 rfl (lv_at hl 4 rfl) ?_
                          refine uVi (n := 0) (b := 0) (As := []) (rest := [.ref (ad 0)]) S hK hN hP hS (c_M_cueCount hJ (up2 w 0 0 0) F hF) ⟨hU, t4_43, t4_40, t1_8, by decide +kernel, by decide, by decide⟩ t4_42 tp_18 (by decide) mg_obj rfl rfl rfl hl.1 rfl (Nat.le_of_ble_eq_true rfl) d_M_record_126 ⟨Nat.le_of_ble_eq_true rfl, Nat.le_of_ble_eq_true rfl⟩ (fun r u H locs hp hP hS => ?_)
                          obtain ⟨hu, rfl⟩ := hp
                          rw [hu] at hP
                          refine lv_bipush (v := 40) S.1 S.2.1 d_M_record_129 (by decide) ?_
                          refine lv_icmp_eq (tgt := 154) S.1 S.2.1 d_M_record_131 (by decide) (fun c_40 => ?_) (fun c_40 => ?_)
                          · refine lv_iconst (v := 2) S.1 S.2.1 d_M_record_154 (by decide) ?_
                            refine lv_goto (tgt := 159) S.1 S.2.1 d_M_record_155 (by decide) ?_
                            refine ur_put (k := 0) (v := .int 2) (g' := mG ca ad (up2 (up2 w 0 0 0) 0 0 2)) S hK hP (uD _ hJ) hS (by decide) mg_obj rfl (fun w h => hU w (in_M w h)) ty_M tyk_M nm_M 0 (by decide) (hU _ t3_160) rfl rfl rfl (Nat.le_of_ble_eq_true rfl) ms_thr d_M_record_159 (fun H locs hP hS => ?_)
                            refine lv_aload_n S.1 S.2.1 d_M_record_162 rfl (lv_at hl 4 rfl) ?_
                            refine ur_get (k := 0) (v := .int ((up2 (up2 w 0 0 0) 0 0 2) 0 0)) S hK hP (by decide) mg_obj rfl (fun w h => hU w (in_M w h)) 0 (by decide) (hU _ t3_160) rfl d_M_record_163 ?_
                            rw [up2_s]
                            refine lv_if_le (tgt := 171) S.1 S.2.1 d_M_record_166 (by decide) (fun c_16 => ?_) (fun c_16 => ?_)
                            · exact absurd c_16 (by decide)
                            · refine lv_iconst (v := 0) S.1 S.2.1 d_M_record_169 (by decide) ?_
                              exact uIret S hr hlk (up2 (up2 w 0 0 0) 0 0 2) hP hS (by unfold mRcP; rw [if_pos ⟨c_a0, c_a4, c_b0, c_b9⟩]; rw [if_pos (Or.inl ⟨hF0, c_40⟩)]; exact ⟨rfl, rfl⟩) d_M_record_170
                          · refine lv_aload_n S.1 S.2.1 d_M_record_134 rfl (lv_at hl 4 rfl) ?_
                            refine uVi (n := 0) (b := 0) (As := []) (rest := [.ref (ad 0)]) S hK hN hP hS (c_M_moveCount hJ (up2 w 0 0 0) M hM F hF) ⟨hU, t4_47, t4_44, t1_8, by decide +kernel, by decide, by decide⟩ t4_46 tp_19 (by decide) mg_obj rfl rfl rfl hl.1 rfl (Nat.le_of_ble_eq_true rfl) d_M_record_135 ⟨Nat.le_of_ble_eq_true rfl, Nat.le_of_ble_eq_true rfl⟩ (fun r u H locs hp hP hS => ?_)
                            obtain ⟨hu, rfl⟩ := hp
                            rw [hu] at hP
                            refine lv_iload S.1 S.2.1 d_M_record_138 (lv_at hl 1 rfl) ?_
                            refine lv_iadd S.1 S.2.1 d_M_record_140 ?_
                            refine lv_aload_n S.1 S.2.1 d_M_record_141 rfl (lv_at hl 4 rfl) ?_
                            refine lv_iload S.1 S.2.1 d_M_record_142 (lv_at hl 2 rfl) ?_
                            refine uVi (n := 1) (b := 0) (As := [.int (-1)]) (rest := [.int ((mMc (up2 w 0 0 0) M F) + (mPc (up2 w 0 0 0) M)), .ref (ad 0)]) S hK hN hP hS (c_M_keptMovesO hJ (up2 w 0 0 0) M hM F hF none (fun q h => nomatch h)) ⟨hU, t4_55, t4_52, t1_8, by decide +kernel, by decide, by decide⟩ t4_54 tp_21 (by decide) mg_obj rfl rfl rfl hl.1 rfl (Nat.le_of_ble_eq_true rfl) d_M_record_144 ⟨Nat.le_of_ble_eq_true rfl, Nat.le_of_ble_eq_true rfl⟩ (fun r u H locs hp hP hS => ?_)
                            obtain ⟨hu, rfl⟩ := hp
                            rw [hu] at hP
                            refine lv_iadd S.1 S.2.1 d_M_record_147 ?_
                            refine lv_sipush (v := 600) S.1 S.2.1 d_M_record_148 (by decide) ?_
                            refine lv_icmp_le (tgt := 158) S.1 S.2.1 d_M_record_151 (by decide) (fun c_600 => ?_) (fun c_600 => ?_)
                            · refine lv_iconst (v := 0) S.1 S.2.1 d_M_record_158 (by decide) ?_
                              refine ur_put (k := 0) (v := .int 0) (g' := mG ca ad (up2 (up2 w 0 0 0) 0 0 0)) S hK hP (uD _ hJ) hS (by decide) mg_obj rfl (fun w h => hU w (in_M w h)) ty_M tyk_M nm_M 0 (by decide) (hU _ t3_160) rfl rfl rfl (Nat.le_of_ble_eq_true rfl) ms_thr d_M_record_159 (fun H locs hP hS => ?_)
                              refine lv_aload_n S.1 S.2.1 d_M_record_162 rfl (lv_at hl 4 rfl) ?_
                              refine ur_get (k := 0) (v := .int ((up2 (up2 w 0 0 0) 0 0 0) 0 0)) S hK hP (by decide) mg_obj rfl (fun w h => hU w (in_M w h)) 0 (by decide) (hU _ t3_160) rfl d_M_record_163 ?_
                              rw [up2_s]
                              refine lv_if_le (tgt := 171) S.1 S.2.1 d_M_record_166 (by decide) (fun c_17 => ?_) (fun c_17 => ?_)
                              · refine lv_aload_n S.1 S.2.1 d_M_record_171 rfl (lv_at hl 4 rfl) ?_
                                refine lv_iload S.1 S.2.1 d_M_record_172 (lv_at hl 2 rfl) ?_
                                refine uVv (n := 1) (b := 0) (As := [.int (-1)]) (rest := []) S hK hN hP hS (c_M_noteO hJ (up2 (up2 w 0 0 0) 0 0 0) M hM F hF none (fun q h => nomatch h)) ⟨hU, t4_59, t4_56, t1_8, by decide +kernel, by decide, by decide⟩ t4_58 tp_22 (by decide) mg_obj rfl rfl rfl hl.1 rfl (Nat.le_of_ble_eq_true rfl) d_M_record_174 ⟨Nat.le_of_ble_eq_true rfl, Nat.le_of_ble_eq_true rfl⟩ (fun u H locs hp hP hS => ?_)
                                rw [hp] at hP
                                refine lv_iload S.1 S.2.1 d_M_record_177 (lv_at hl 3 rfl) ?_
                                refine lv_if_ge (tgt := 191) S.1 S.2.1 d_M_record_179 (by decide) (fun c_18 => ?_) (fun c_18 => ?_)
                                · exact absurd c_18 (by decide)
                                · refine lv_aload_n S.1 S.2.1 d_M_record_182 rfl (lv_at hl 4 rfl) ?_
                                  refine lv_iload_n S.1 S.2.1 d_M_record_183 rfl (lv_at hl 5 rfl) ?_
                                  refine lv_iload_n S.1 S.2.1 d_M_record_184 rfl (lv_at hl 6 rfl) ?_
                                  rcases hs0 : mFre (up2 w 0 0 0) F with _ | s0
                                  · exact absurd (by rw [mFre_none _ hs0, hF]; rfl) c_40
                                  have hs1 := mFre_some _ _ hs0
                                  refine uVi (n := 2) (b := 0) (As := [.int a, .int b]) (rest := []) S hK hN hP hS (c_M_make hJ (mNo (up2 (up2 w 0 0 0) 0 0 0) F M none) M hM a b s0 (by omega) (by rw [mNo_4]; exact hs1.2.1) (fun j hj => by rw [mNo_4]; exact hs1.2.2 j hj)) ⟨hU, t4_75, t4_72, t1_8, by decide +kernel, by decide, by decide⟩ t4_74 tp_26 (by decide) mg_obj rfl rfl rfl hl.1 rfl (Nat.le_of_ble_eq_true rfl) d_M_record_185 ⟨Nat.le_of_ble_eq_true rfl, Nat.le_of_ble_eq_true rfl⟩ (fun r u H locs hp hP hS => ?_)
                                  obtain ⟨hu, rfl⟩ := hp
                                  rw [hu] at hP
                                  refine lv_goto (tgt := 193) S.1 S.2.1 d_M_record_188 (by decide) ?_
                                  refine lv_istore (lv' := [(4, .int (nI s0)), (7, .int (nI M)), (6, .int (mPc (up2 w 0 0 0) M)), (5, .int (-1)), (0, .ref (ad 0)), (1, .int a), (2, .int b), (3, .int x)]) S.1 S.2.1 d_M_record_193 hl (by decide) rfl (fun ls hl => ?_)
                                  refine lv_iconst (v := 0) S.1 S.2.1 d_M_record_195 (by decide) ?_
                                  refine lv_istore (lv' := [(7, .int 0), (4, .int (nI s0)), (6, .int (mPc (up2 w 0 0 0) M)), (5, .int (-1)), (0, .ref (ad 0)), (1, .int a), (2, .int b), (3, .int x)]) S.1 S.2.1 d_M_record_196 hl (by decide) rfl (fun ls hl => ?_)
                                  have L2 : ∀ i, i ≤ M → ∀ (H : Heap) (locs : List Loc) (ls : Array Slot), va_P D clsAll (uw 22 ad (mG ca ad (mRp (mMk (mNo (up2 (up2 w 0 0 0) 0 0 0) F M none) a b s0 M) s0 none i))) H → va_S (uA 22 ad s.heap.size) s.heap H locs → lv_has ls 8 [(7, .int (nI i)), (5, .int (-1)), (4, .int (nI s0)), (0, .ref (ad 0)), (1, .int a), (2, .int b), (3, .int x)] → uGi 4 94 D clsAll 22 ad (mG ca ad) (fun r u => mRcP w a b x F M r u) [.ref (ad 0), .int a, .int b, .int x] p l e s m below meth c H locs 198 ls [] := by
                                    refine upTo M ?_ ?_
                                    · intro H locs ls hP hS hl
                                      refine lv_iload S.1 S.2.1 d_M_record_198 (lv_at hl 0 rfl) ?_
                                      refine lv_bipush (v := 64) S.1 S.2.1 d_M_record_200 (by decide) ?_
                                      refine lv_icmp_ge (tgt := 250) S.1 S.2.1 d_M_record_202 (by decide) (fun c_h2 => ?_) (fun c_h2 => ?_)
                                      · refine lv_aload_n S.1 S.2.1 d_M_record_250 rfl (lv_at hl 3 rfl) ?_
                                        refine lv_iload S.1 S.2.1 d_M_record_251 (lv_at hl 2 rfl) ?_
                                        refine uVi (n := 1) (b := 0) (As := [.int (nI s0)]) (rest := []) S hK hN hP hS (c_M_movesOf hJ (mRp (mMk (mNo (up2 (up2 w 0 0 0) 0 0 0) F M none) a b s0 M) s0 none M) M hM s0 (by omega)) ⟨hU, t4_51, t4_48, t1_8, by decide +kernel, by decide, by decide⟩ t4_50 tp_20 (by decide) mg_obj rfl rfl rfl hl.1 rfl (Nat.le_of_ble_eq_true rfl) d_M_record_253 ⟨Nat.le_of_ble_eq_true rfl, Nat.le_of_ble_eq_true rfl⟩ (fun r u H locs hp hP hS => ?_)
                                        obtain ⟨hu, rfl⟩ := hp
                                        rw [hu] at hP
                                        exact uIret S hr hlk (mRp (mMk (mNo (up2 (up2 w 0 0 0) 0 0 0) F M none) a b s0 M) s0 none M) hP hS (by unfold mRcP; rw [if_pos ⟨c_a0, c_a4, c_b0, c_b9⟩]; rw [if_neg (fun z => z.elim (fun y => c_40 y.2) (fun y => y (by rw [hF0, hN0]; exact c_600))), hF0, hN0]; show _ ∧ _; rw [hs0]; exact ⟨rfl, rfl⟩) d_M_record_256
                                      · exact absurd (by subst hM; exact nI_le (Nat.le_refl 64) (by decide)) c_h2
                                    · intro i hi ih H locs ls hP hS hl
                                      refine lv_iload S.1 S.2.1 d_M_record_198 (lv_at hl 0 rfl) ?_
                                      refine lv_bipush (v := 64) S.1 S.2.1 d_M_record_200 (by decide) ?_
                                      refine lv_icmp_ge (tgt := 250) S.1 S.2.1 d_M_record_202 (by decide) (fun c_h2 => ?_) (fun c_h2 => ?_)
                                      · exact absurd c_h2 (nI_ge (b := 64) (by omega) (by decide))
                                      · refine lv_aload_n S.1 S.2.1 d_M_record_205 rfl (lv_at hl 3 rfl) ?_
                                        refine ur_get (k := 0) (v := .ref (ad 2)) S hK hP (by decide) mg_obj rfl (fun w h => hU w (in_M w h)) 2 (by decide) (hU _ t3_162) rfl d_M_record_206 ?_
                                        refine lv_iload S.1 S.2.1 d_M_record_209 (lv_at hl 0 rfl) ?_
                                        refine ur_sald (k := 2) (n := 64) (f := ((mRp (mMk (mNo (up2 (up2 w 0 0 0) 0 0 0) F M none) a b s0 M) s0 none i) 2)) (j := i) S hK hP (by decide) 4 (mg_arr 2 (by decide)) rfl rfl (by omega) (by decide) d_M_record_211 ?_
                                        refine lv_iconst (v := (-1)) S.1 S.2.1 d_M_record_212 (by decide) ?_
                                        refine lv_icmp_eq (tgt := 244) S.1 S.2.1 d_M_record_213 (by decide) (fun c_b => ?_) (fun c_b => ?_)
                                        · refine lv_iinc (v := nI (i + 1)) (lv' := [(7, .int (nI (i + 1))), (5, .int (-1)), (4, .int (nI s0)), (0, .ref (ad 0)), (1, .int a), (2, .int b), (3, .int x)]) S.1 S.2.1 d_M_record_244 hl (k := 0) rfl (nI_1 i) (by decide) rfl (fun ls hl => ?_)
                                          refine lv_goto (tgt := 198) S.1 S.2.1 d_M_record_247 (by decide) ?_
                                          exact ih _ _ ls (by rw [mRp, if_pos c_b]; exact hP) hS (lv_sub hl [0, 1, 2, 3, 4, 5, 6] rfl)
                                        · refine lv_aload_n S.1 S.2.1 d_M_record_216 rfl (lv_at hl 3 rfl) ?_
                                          refine lv_iload S.1 S.2.1 d_M_record_217 (lv_at hl 2 rfl) ?_
                                          refine lv_iload S.1 S.2.1 d_M_record_219 (lv_at hl 0 rfl) ?_
                                          refine lv_aload_n S.1 S.2.1 d_M_record_221 rfl (lv_at hl 3 rfl) ?_
                                          refine ur_get (k := 0) (v := .ref (ad 2)) S hK hP (by decide) mg_obj rfl (fun w h => hU w (in_M w h)) 2 (by decide) (hU _ t3_162) rfl d_M_record_222 ?_
                                          refine lv_iload S.1 S.2.1 d_M_record_225 (lv_at hl 0 rfl) ?_
                                          refine ur_sald (k := 2) (n := 64) (f := ((mRp (mMk (mNo (up2 (up2 w 0 0 0) 0 0 0) F M none) a b s0 M) s0 none i) 2)) (j := i) S hK hP (by decide) 4 (mg_arr 2 (by decide)) rfl rfl (by omega) (by decide) d_M_record_227 ?_
                                          refine uVv (n := 3) (b := 0) (As := [.int (nI s0), .int (nI i), .int (((mRp (mMk (mNo (up2 (up2 w 0 0 0) 0 0 0) F M none) a b s0 M) s0 none i) 2) i)]) (rest := []) S hK hN hP hS (c_M_put hJ (mRp (mMk (mNo (up2 (up2 w 0 0 0) 0 0 0) F M none) a b s0 M) s0 none i) s0 i (by omega) (by omega) (((mRp (mMk (mNo (up2 (up2 w 0 0 0) 0 0 0) F M none) a b s0 M) s0 none i) 2) i)) ⟨hU, t4_79, t4_76, t1_8, by decide +kernel, by decide, by decide⟩ t4_78 tp_27 (by decide) mg_obj rfl rfl rfl hl.1 rfl (Nat.le_of_ble_eq_true rfl) d_M_record_228 ⟨Nat.le_of_ble_eq_true rfl, Nat.le_of_ble_eq_true rfl⟩ (fun u H locs hp hP hS => ?_)
                                          rw [hp] at hP
                                          refine lv_iload S.1 S.2.1 d_M_record_231 (lv_at hl 1 rfl) ?_
                                          refine lv_if_lt (tgt := 244) S.1 S.2.1 d_M_record_233 (by decide) (fun c_19 => ?_) (fun c_19 => ?_)
                                          · refine lv_iinc (v := nI (i + 1)) (lv' := [(7, .int (nI (i + 1))), (5, .int (-1)), (4, .int (nI s0)), (0, .ref (ad 0)), (1, .int a), (2, .int b), (3, .int x)]) S.1 S.2.1 d_M_record_244 hl (k := 0) rfl (nI_1 i) (by decide) rfl (fun ls hl => ?_)
                                            refine lv_goto (tgt := 198) S.1 S.2.1 d_M_record_247 (by decide) ?_
                                            exact ih _ _ ls (by rw [mRp, if_neg c_b]; exact hP) hS (lv_sub hl [0, 1, 2, 3, 4, 5, 6] rfl)
                                          · exact absurd (by decide) c_19
                                  exact L2 0 (Nat.zero_le _) _ _ ls hP hS (lv_sub hl [0, 3, 1, 4, 5, 6, 7] rfl)
                              · exact absurd (by decide) c_17
                            · refine lv_iconst (v := 2) S.1 S.2.1 d_M_record_154 (by decide) ?_
                              refine lv_goto (tgt := 159) S.1 S.2.1 d_M_record_155 (by decide) ?_
                              refine ur_put (k := 0) (v := .int 2) (g' := mG ca ad (up2 (up2 w 0 0 0) 0 0 2)) S hK hP (uD _ hJ) hS (by decide) mg_obj rfl (fun w h => hU w (in_M w h)) ty_M tyk_M nm_M 0 (by decide) (hU _ t3_160) rfl rfl rfl (Nat.le_of_ble_eq_true rfl) ms_thr d_M_record_159 (fun H locs hP hS => ?_)
                              refine lv_aload_n S.1 S.2.1 d_M_record_162 rfl (lv_at hl 4 rfl) ?_
                              refine ur_get (k := 0) (v := .int ((up2 (up2 w 0 0 0) 0 0 2) 0 0)) S hK hP (by decide) mg_obj rfl (fun w h => hU w (in_M w h)) 0 (by decide) (hU _ t3_160) rfl d_M_record_163 ?_
                              rw [up2_s]
                              refine lv_if_le (tgt := 171) S.1 S.2.1 d_M_record_166 (by decide) (fun c_20 => ?_) (fun c_20 => ?_)
                              · exact absurd c_20 (by decide)
                              · refine lv_iconst (v := 0) S.1 S.2.1 d_M_record_169 (by decide) ?_
                                exact uIret S hr hlk (up2 (up2 w 0 0 0) 0 0 2) hP hS (by unfold mRcP; rw [if_pos ⟨c_a0, c_a4, c_b0, c_b9⟩]; rw [if_pos (Or.inr (by rw [hF0, hN0]; exact c_600))]; exact ⟨rfl, rfl⟩) d_M_record_170
                      · exact absurd (by subst hM; exact nI_le (Nat.le_refl 64) (by decide)) c_h1
                    · intro i hi ih H locs ls hP hS hl
                      refine lv_iload S.1 S.2.1 d_M_record_68 (lv_at hl 0 rfl) ?_
                      refine lv_bipush (v := 64) S.1 S.2.1 d_M_record_70 (by decide) ?_
                      refine lv_icmp_ge (tgt := 119) S.1 S.2.1 d_M_record_72 (by decide) (fun c_h1 => ?_) (fun c_h1 => ?_)
                      · exact absurd c_h1 (nI_ge (b := 64) (by omega) (by decide))
                      · refine lv_iload S.1 S.2.1 d_M_record_75 (lv_at hl 1 rfl) ?_
                        refine lv_aload_n S.1 S.2.1 d_M_record_77 rfl (lv_at hl 4 rfl) ?_
                        refine ur_get (k := 0) (v := .ref (ad 2)) S hK hP (by decide) mg_obj rfl (fun w h => hU w (in_M w h)) 2 (by decide) (hU _ t3_162) rfl d_M_record_78 ?_
                        refine lv_iload S.1 S.2.1 d_M_record_81 (lv_at hl 0 rfl) ?_
                        refine ur_sald (k := 2) (n := 64) (f := ((up2 w 0 0 0) 2)) (j := i) S hK hP (by decide) 4 (mg_arr 2 (by decide)) rfl rfl (by omega) (by decide) d_M_record_83 ?_
                        refine lv_iconst (v := (-1)) S.1 S.2.1 d_M_record_84 (by decide) ?_
                        refine lv_icmp_eq (tgt := 109) S.1 S.2.1 d_M_record_85 (by decide) (fun c_v => ?_) (fun c_v => ?_)
                        · refine lv_iconst (v := 0) S.1 S.2.1 d_M_record_109 (by decide) ?_
                          refine lv_iadd S.1 S.2.1 d_M_record_110 ?_
                          refine lv_topi (fun x_21 ex_21 => ?_)
                          refine lv_istore (lv' := [(6, .int x_21), (7, .int (nI i)), (5, .int (-1)), (4, .int (-1)), (0, .ref (ad 0)), (1, .int a), (2, .int b), (3, .int x)]) S.1 S.2.1 d_M_record_111 hl (by decide) rfl (fun ls hl => ?_)
                          refine lv_iinc (v := nI (i + 1)) (lv' := [(7, .int (nI (i + 1))), (6, .int x_21), (5, .int (-1)), (4, .int (-1)), (0, .ref (ad 0)), (1, .int a), (2, .int b), (3, .int x)]) S.1 S.2.1 d_M_record_113 hl (k := 1) rfl (nI_1 i) (by decide) rfl (fun ls hl => ?_)
                          refine lv_goto (tgt := 68) S.1 S.2.1 d_M_record_116 (by decide) ?_
                          exact ih _ _ ls hP hS (by rw [show mPc (up2 w 0 0 0) (i + 1) = x_21 from by rw [ex_21, mPc, if_pos c_v]]; exact lv_sub hl [0, 1, 2, 3, 4, 5, 6, 7] rfl)
                        · refine lv_iload S.1 S.2.1 d_M_record_88 (lv_at hl 3 rfl) ?_
                          refine lv_if_lt (tgt := 105) S.1 S.2.1 d_M_record_90 (by decide) (fun c_22 => ?_) (fun c_22 => ?_)
                          · refine lv_iconst (v := 1) S.1 S.2.1 d_M_record_105 (by decide) ?_
                            refine lv_goto (tgt := 110) S.1 S.2.1 d_M_record_106 (by decide) ?_
                            refine lv_iadd S.1 S.2.1 d_M_record_110 ?_
                            refine lv_topi (fun x_23 ex_23 => ?_)
                            refine lv_istore (lv' := [(6, .int x_23), (7, .int (nI i)), (5, .int (-1)), (4, .int (-1)), (0, .ref (ad 0)), (1, .int a), (2, .int b), (3, .int x)]) S.1 S.2.1 d_M_record_111 hl (by decide) rfl (fun ls hl => ?_)
                            refine lv_iinc (v := nI (i + 1)) (lv' := [(7, .int (nI (i + 1))), (6, .int x_23), (5, .int (-1)), (4, .int (-1)), (0, .ref (ad 0)), (1, .int a), (2, .int b), (3, .int x)]) S.1 S.2.1 d_M_record_113 hl (k := 1) rfl (nI_1 i) (by decide) rfl (fun ls hl => ?_)
                            refine lv_goto (tgt := 68) S.1 S.2.1 d_M_record_116 (by decide) ?_
                            exact ih _ _ ls hP hS (by rw [show mPc (up2 w 0 0 0) (i + 1) = x_23 from by rw [ex_23, mPc, if_neg c_v]]; exact lv_sub hl [0, 1, 2, 3, 4, 5, 6, 7] rfl)
                          · exact absurd (by decide) c_22
                  exact L 0 (Nat.zero_le _) _ _ ls hP hS (lv_sub hl [0, 1, 2, 3, 4, 5, 6, 7] rfl)
                · have hN0 : mNx (up2 w 0 0 0) a b x F = some px := by rw [mNx, if_neg c_k, hX0]
                  have hpx := mAbv_lt _ _ hX0
                  refine lv_istore (lv' := [(5, .int (nI px)), (4, .int (-1)), (0, .ref (ad 0)), (1, .int a), (2, .int b), (3, .int x)]) S.1 S.2.1 d_M_record_60 hl (by decide) rfl (fun ls hl => ?_)
                  refine lv_iconst (v := 0) S.1 S.2.1 d_M_record_62 (by decide) ?_
                  refine lv_istore (lv' := [(6, .int 0), (5, .int (nI px)), (4, .int (-1)), (0, .ref (ad 0)), (1, .int a), (2, .int b), (3, .int x)]) S.1 S.2.1 d_M_record_63 hl (by decide) rfl (fun ls hl => ?_)
                  refine lv_iconst (v := 0) S.1 S.2.1 d_M_record_65 (by decide) ?_
                  refine lv_istore (lv' := [(7, .int 0), (6, .int 0), (5, .int (nI px)), (4, .int (-1)), (0, .ref (ad 0)), (1, .int a), (2, .int b), (3, .int x)]) S.1 S.2.1 d_M_record_66 hl (by decide) rfl (fun ls hl => ?_)
                  have L : ∀ i, i ≤ M → ∀ (H : Heap) (locs : List Loc) (ls : Array Slot), va_P D clsAll (uw 22 ad (mG ca ad (up2 w 0 0 0))) H → va_S (uA 22 ad s.heap.size) s.heap H locs → lv_has ls 8 [(7, .int (nI i)), (6, .int (mPc (up2 w 0 0 0) i)), (5, .int (nI px)), (4, .int (-1)), (0, .ref (ad 0)), (1, .int a), (2, .int b), (3, .int x)] → uGi 4 94 D clsAll 22 ad (mG ca ad) (fun r u => mRcP w a b x F M r u) [.ref (ad 0), .int a, .int b, .int x] p l e s m below meth c H locs 68 ls [] := by
                    refine upTo M ?_ ?_
                    · intro H locs ls hP hS hl
                      refine lv_iload S.1 S.2.1 d_M_record_68 (lv_at hl 0 rfl) ?_
                      refine lv_bipush (v := 64) S.1 S.2.1 d_M_record_70 (by decide) ?_
                      refine lv_icmp_ge (tgt := 119) S.1 S.2.1 d_M_record_72 (by decide) (fun c_h1 => ?_) (fun c_h1 => ?_)
                      · refine lv_aload_n S.1 S.2.1 d_M_record_119 rfl (lv_at hl 4 rfl) ?_
                        refine lv_iload S.1 S.2.1 d_M_record_120 (lv_at hl 3 rfl) ?_
                        refine lv_if_ge (tgt := 134) S.1 S.2.1 d_M_record_122 (by decide) (fun c_24 => ?_) (fun c_24 => ?_)
                        · exact absurd c_24 (by decide)
                        · refine lv_aload_n S.1 S.2.1 d_M_record_125 rfl (lv_at hl 4 rfl) ?_
                          refine uVi (n := 0) (b := 0) (As := []) (rest := [.ref (ad 0)]) S hK hN hP hS (c_M_cueCount hJ (up2 w 0 0 0) F hF) ⟨hU, t4_43, t4_40, t1_8, by decide +kernel, by decide, by decide⟩ t4_42 tp_18 (by decide) mg_obj rfl rfl rfl hl.1 rfl (Nat.le_of_ble_eq_true rfl) d_M_record_126 ⟨Nat.le_of_ble_eq_true rfl, Nat.le_of_ble_eq_true rfl⟩ (fun r u H locs hp hP hS => ?_)
                          obtain ⟨hu, rfl⟩ := hp
                          rw [hu] at hP
                          refine lv_bipush (v := 40) S.1 S.2.1 d_M_record_129 (by decide) ?_
                          refine lv_icmp_eq (tgt := 154) S.1 S.2.1 d_M_record_131 (by decide) (fun c_40 => ?_) (fun c_40 => ?_)
                          · refine lv_iconst (v := 2) S.1 S.2.1 d_M_record_154 (by decide) ?_
                            refine lv_goto (tgt := 159) S.1 S.2.1 d_M_record_155 (by decide) ?_
                            refine ur_put (k := 0) (v := .int 2) (g' := mG ca ad (up2 (up2 w 0 0 0) 0 0 2)) S hK hP (uD _ hJ) hS (by decide) mg_obj rfl (fun w h => hU w (in_M w h)) ty_M tyk_M nm_M 0 (by decide) (hU _ t3_160) rfl rfl rfl (Nat.le_of_ble_eq_true rfl) ms_thr d_M_record_159 (fun H locs hP hS => ?_)
                            refine lv_aload_n S.1 S.2.1 d_M_record_162 rfl (lv_at hl 4 rfl) ?_
                            refine ur_get (k := 0) (v := .int ((up2 (up2 w 0 0 0) 0 0 2) 0 0)) S hK hP (by decide) mg_obj rfl (fun w h => hU w (in_M w h)) 0 (by decide) (hU _ t3_160) rfl d_M_record_163 ?_
                            rw [up2_s]
                            refine lv_if_le (tgt := 171) S.1 S.2.1 d_M_record_166 (by decide) (fun c_25 => ?_) (fun c_25 => ?_)
                            · exact absurd c_25 (by decide)
                            · refine lv_iconst (v := 0) S.1 S.2.1 d_M_record_169 (by decide) ?_
                              exact uIret S hr hlk (up2 (up2 w 0 0 0) 0 0 2) hP hS (by unfold mRcP; rw [if_pos ⟨c_a0, c_a4, c_b0, c_b9⟩]; rw [if_pos (Or.inl ⟨hF0, c_40⟩)]; exact ⟨rfl, rfl⟩) d_M_record_170
                          · refine lv_aload_n S.1 S.2.1 d_M_record_134 rfl (lv_at hl 4 rfl) ?_
                            refine uVi (n := 0) (b := 0) (As := []) (rest := [.ref (ad 0)]) S hK hN hP hS (c_M_moveCount hJ (up2 w 0 0 0) M hM F hF) ⟨hU, t4_47, t4_44, t1_8, by decide +kernel, by decide, by decide⟩ t4_46 tp_19 (by decide) mg_obj rfl rfl rfl hl.1 rfl (Nat.le_of_ble_eq_true rfl) d_M_record_135 ⟨Nat.le_of_ble_eq_true rfl, Nat.le_of_ble_eq_true rfl⟩ (fun r u H locs hp hP hS => ?_)
                            obtain ⟨hu, rfl⟩ := hp
                            rw [hu] at hP
                            refine lv_iload S.1 S.2.1 d_M_record_138 (lv_at hl 1 rfl) ?_
                            refine lv_iadd S.1 S.2.1 d_M_record_140 ?_
                            refine lv_aload_n S.1 S.2.1 d_M_record_141 rfl (lv_at hl 4 rfl) ?_
                            refine lv_iload S.1 S.2.1 d_M_record_142 (lv_at hl 2 rfl) ?_
                            refine uVi (n := 1) (b := 0) (As := [.int (nI px)]) (rest := [.int ((mMc (up2 w 0 0 0) M F) + (mPc (up2 w 0 0 0) M)), .ref (ad 0)]) S hK hN hP hS (c_M_keptMovesO hJ (up2 w 0 0 0) M hM F hF (some px) (fun q h => by cases h; omega)) ⟨hU, t4_55, t4_52, t1_8, by decide +kernel, by decide, by decide⟩ t4_54 tp_21 (by decide) mg_obj rfl rfl rfl hl.1 rfl (Nat.le_of_ble_eq_true rfl) d_M_record_144 ⟨Nat.le_of_ble_eq_true rfl, Nat.le_of_ble_eq_true rfl⟩ (fun r u H locs hp hP hS => ?_)
                            obtain ⟨hu, rfl⟩ := hp
                            rw [hu] at hP
                            refine lv_iadd S.1 S.2.1 d_M_record_147 ?_
                            refine lv_sipush (v := 600) S.1 S.2.1 d_M_record_148 (by decide) ?_
                            refine lv_icmp_le (tgt := 158) S.1 S.2.1 d_M_record_151 (by decide) (fun c_600 => ?_) (fun c_600 => ?_)
                            · refine lv_iconst (v := 0) S.1 S.2.1 d_M_record_158 (by decide) ?_
                              refine ur_put (k := 0) (v := .int 0) (g' := mG ca ad (up2 (up2 w 0 0 0) 0 0 0)) S hK hP (uD _ hJ) hS (by decide) mg_obj rfl (fun w h => hU w (in_M w h)) ty_M tyk_M nm_M 0 (by decide) (hU _ t3_160) rfl rfl rfl (Nat.le_of_ble_eq_true rfl) ms_thr d_M_record_159 (fun H locs hP hS => ?_)
                              refine lv_aload_n S.1 S.2.1 d_M_record_162 rfl (lv_at hl 4 rfl) ?_
                              refine ur_get (k := 0) (v := .int ((up2 (up2 w 0 0 0) 0 0 0) 0 0)) S hK hP (by decide) mg_obj rfl (fun w h => hU w (in_M w h)) 0 (by decide) (hU _ t3_160) rfl d_M_record_163 ?_
                              rw [up2_s]
                              refine lv_if_le (tgt := 171) S.1 S.2.1 d_M_record_166 (by decide) (fun c_26 => ?_) (fun c_26 => ?_)
                              · refine lv_aload_n S.1 S.2.1 d_M_record_171 rfl (lv_at hl 4 rfl) ?_
                                refine lv_iload S.1 S.2.1 d_M_record_172 (lv_at hl 2 rfl) ?_
                                refine uVv (n := 1) (b := 0) (As := [.int (nI px)]) (rest := []) S hK hN hP hS (c_M_noteO hJ (up2 (up2 w 0 0 0) 0 0 0) M hM F hF (some px) (fun q h => by cases h; omega)) ⟨hU, t4_59, t4_56, t1_8, by decide +kernel, by decide, by decide⟩ t4_58 tp_22 (by decide) mg_obj rfl rfl rfl hl.1 rfl (Nat.le_of_ble_eq_true rfl) d_M_record_174 ⟨Nat.le_of_ble_eq_true rfl, Nat.le_of_ble_eq_true rfl⟩ (fun u H locs hp hP hS => ?_)
                                rw [hp] at hP
                                refine lv_iload S.1 S.2.1 d_M_record_177 (lv_at hl 3 rfl) ?_
                                refine lv_if_ge (tgt := 191) S.1 S.2.1 d_M_record_179 (by decide) (fun c_27 => ?_) (fun c_27 => ?_)
                                · exact absurd c_27 (by decide)
                                · refine lv_aload_n S.1 S.2.1 d_M_record_182 rfl (lv_at hl 4 rfl) ?_
                                  refine lv_iload_n S.1 S.2.1 d_M_record_183 rfl (lv_at hl 5 rfl) ?_
                                  refine lv_iload_n S.1 S.2.1 d_M_record_184 rfl (lv_at hl 6 rfl) ?_
                                  rcases hs0 : mFre (up2 w 0 0 0) F with _ | s0
                                  · exact absurd (by rw [mFre_none _ hs0, hF]; rfl) c_40
                                  have hs1 := mFre_some _ _ hs0
                                  refine uVi (n := 2) (b := 0) (As := [.int a, .int b]) (rest := []) S hK hN hP hS (c_M_make hJ (mNo (up2 (up2 w 0 0 0) 0 0 0) F M (some px)) M hM a b s0 (by omega) (by rw [mNo_4]; exact hs1.2.1) (fun j hj => by rw [mNo_4]; exact hs1.2.2 j hj)) ⟨hU, t4_75, t4_72, t1_8, by decide +kernel, by decide, by decide⟩ t4_74 tp_26 (by decide) mg_obj rfl rfl rfl hl.1 rfl (Nat.le_of_ble_eq_true rfl) d_M_record_185 ⟨Nat.le_of_ble_eq_true rfl, Nat.le_of_ble_eq_true rfl⟩ (fun r u H locs hp hP hS => ?_)
                                  obtain ⟨hu, rfl⟩ := hp
                                  rw [hu] at hP
                                  refine lv_goto (tgt := 193) S.1 S.2.1 d_M_record_188 (by decide) ?_
                                  refine lv_istore (lv' := [(4, .int (nI s0)), (7, .int (nI M)), (6, .int (mPc (up2 w 0 0 0) M)), (5, .int (nI px)), (0, .ref (ad 0)), (1, .int a), (2, .int b), (3, .int x)]) S.1 S.2.1 d_M_record_193 hl (by decide) rfl (fun ls hl => ?_)
                                  refine lv_iconst (v := 0) S.1 S.2.1 d_M_record_195 (by decide) ?_
                                  refine lv_istore (lv' := [(7, .int 0), (4, .int (nI s0)), (6, .int (mPc (up2 w 0 0 0) M)), (5, .int (nI px)), (0, .ref (ad 0)), (1, .int a), (2, .int b), (3, .int x)]) S.1 S.2.1 d_M_record_196 hl (by decide) rfl (fun ls hl => ?_)
                                  have L2 : ∀ i, i ≤ M → ∀ (H : Heap) (locs : List Loc) (ls : Array Slot), va_P D clsAll (uw 22 ad (mG ca ad (mRp (mMk (mNo (up2 (up2 w 0 0 0) 0 0 0) F M (some px)) a b s0 M) s0 (some px) i))) H → va_S (uA 22 ad s.heap.size) s.heap H locs → lv_has ls 8 [(7, .int (nI i)), (5, .int (nI px)), (4, .int (nI s0)), (0, .ref (ad 0)), (1, .int a), (2, .int b), (3, .int x)] → uGi 4 94 D clsAll 22 ad (mG ca ad) (fun r u => mRcP w a b x F M r u) [.ref (ad 0), .int a, .int b, .int x] p l e s m below meth c H locs 198 ls [] := by
                                    refine upTo M ?_ ?_
                                    · intro H locs ls hP hS hl
                                      refine lv_iload S.1 S.2.1 d_M_record_198 (lv_at hl 0 rfl) ?_
                                      refine lv_bipush (v := 64) S.1 S.2.1 d_M_record_200 (by decide) ?_
                                      refine lv_icmp_ge (tgt := 250) S.1 S.2.1 d_M_record_202 (by decide) (fun c_h2 => ?_) (fun c_h2 => ?_)
                                      · refine lv_aload_n S.1 S.2.1 d_M_record_250 rfl (lv_at hl 3 rfl) ?_
                                        refine lv_iload S.1 S.2.1 d_M_record_251 (lv_at hl 2 rfl) ?_
                                        refine uVi (n := 1) (b := 0) (As := [.int (nI s0)]) (rest := []) S hK hN hP hS (c_M_movesOf hJ (mRp (mMk (mNo (up2 (up2 w 0 0 0) 0 0 0) F M (some px)) a b s0 M) s0 (some px) M) M hM s0 (by omega)) ⟨hU, t4_51, t4_48, t1_8, by decide +kernel, by decide, by decide⟩ t4_50 tp_20 (by decide) mg_obj rfl rfl rfl hl.1 rfl (Nat.le_of_ble_eq_true rfl) d_M_record_253 ⟨Nat.le_of_ble_eq_true rfl, Nat.le_of_ble_eq_true rfl⟩ (fun r u H locs hp hP hS => ?_)
                                        obtain ⟨hu, rfl⟩ := hp
                                        rw [hu] at hP
                                        exact uIret S hr hlk (mRp (mMk (mNo (up2 (up2 w 0 0 0) 0 0 0) F M (some px)) a b s0 M) s0 (some px) M) hP hS (by unfold mRcP; rw [if_pos ⟨c_a0, c_a4, c_b0, c_b9⟩]; rw [if_neg (fun z => z.elim (fun y => c_40 y.2) (fun y => y (by rw [hF0, hN0]; exact c_600))), hF0, hN0]; show _ ∧ _; rw [hs0]; exact ⟨rfl, rfl⟩) d_M_record_256
                                      · exact absurd (by subst hM; exact nI_le (Nat.le_refl 64) (by decide)) c_h2
                                    · intro i hi ih H locs ls hP hS hl
                                      refine lv_iload S.1 S.2.1 d_M_record_198 (lv_at hl 0 rfl) ?_
                                      refine lv_bipush (v := 64) S.1 S.2.1 d_M_record_200 (by decide) ?_
                                      refine lv_icmp_ge (tgt := 250) S.1 S.2.1 d_M_record_202 (by decide) (fun c_h2 => ?_) (fun c_h2 => ?_)
                                      · exact absurd c_h2 (nI_ge (b := 64) (by omega) (by decide))
                                      · refine lv_aload_n S.1 S.2.1 d_M_record_205 rfl (lv_at hl 3 rfl) ?_
                                        refine ur_get (k := 0) (v := .ref (ad 2)) S hK hP (by decide) mg_obj rfl (fun w h => hU w (in_M w h)) 2 (by decide) (hU _ t3_162) rfl d_M_record_206 ?_
                                        refine lv_iload S.1 S.2.1 d_M_record_209 (lv_at hl 0 rfl) ?_
                                        refine ur_sald (k := 2) (n := 64) (f := ((mRp (mMk (mNo (up2 (up2 w 0 0 0) 0 0 0) F M (some px)) a b s0 M) s0 (some px) i) 2)) (j := i) S hK hP (by decide) 4 (mg_arr 2 (by decide)) rfl rfl (by omega) (by decide) d_M_record_211 ?_
                                        refine lv_iconst (v := (-1)) S.1 S.2.1 d_M_record_212 (by decide) ?_
                                        refine lv_icmp_eq (tgt := 244) S.1 S.2.1 d_M_record_213 (by decide) (fun c_b => ?_) (fun c_b => ?_)
                                        · refine lv_iinc (v := nI (i + 1)) (lv' := [(7, .int (nI (i + 1))), (5, .int (nI px)), (4, .int (nI s0)), (0, .ref (ad 0)), (1, .int a), (2, .int b), (3, .int x)]) S.1 S.2.1 d_M_record_244 hl (k := 0) rfl (nI_1 i) (by decide) rfl (fun ls hl => ?_)
                                          refine lv_goto (tgt := 198) S.1 S.2.1 d_M_record_247 (by decide) ?_
                                          exact ih _ _ ls (by rw [mRp, if_pos c_b]; exact hP) hS (lv_sub hl [0, 1, 2, 3, 4, 5, 6] rfl)
                                        · refine lv_aload_n S.1 S.2.1 d_M_record_216 rfl (lv_at hl 3 rfl) ?_
                                          refine lv_iload S.1 S.2.1 d_M_record_217 (lv_at hl 2 rfl) ?_
                                          refine lv_iload S.1 S.2.1 d_M_record_219 (lv_at hl 0 rfl) ?_
                                          refine lv_aload_n S.1 S.2.1 d_M_record_221 rfl (lv_at hl 3 rfl) ?_
                                          refine ur_get (k := 0) (v := .ref (ad 2)) S hK hP (by decide) mg_obj rfl (fun w h => hU w (in_M w h)) 2 (by decide) (hU _ t3_162) rfl d_M_record_222 ?_
                                          refine lv_iload S.1 S.2.1 d_M_record_225 (lv_at hl 0 rfl) ?_
                                          refine ur_sald (k := 2) (n := 64) (f := ((mRp (mMk (mNo (up2 (up2 w 0 0 0) 0 0 0) F M (some px)) a b s0 M) s0 (some px) i) 2)) (j := i) S hK hP (by decide) 4 (mg_arr 2 (by decide)) rfl rfl (by omega) (by decide) d_M_record_227 ?_
                                          refine uVv (n := 3) (b := 0) (As := [.int (nI s0), .int (nI i), .int (((mRp (mMk (mNo (up2 (up2 w 0 0 0) 0 0 0) F M (some px)) a b s0 M) s0 (some px) i) 2) i)]) (rest := []) S hK hN hP hS (c_M_put hJ (mRp (mMk (mNo (up2 (up2 w 0 0 0) 0 0 0) F M (some px)) a b s0 M) s0 (some px) i) s0 i (by omega) (by omega) (((mRp (mMk (mNo (up2 (up2 w 0 0 0) 0 0 0) F M (some px)) a b s0 M) s0 (some px) i) 2) i)) ⟨hU, t4_79, t4_76, t1_8, by decide +kernel, by decide, by decide⟩ t4_78 tp_27 (by decide) mg_obj rfl rfl rfl hl.1 rfl (Nat.le_of_ble_eq_true rfl) d_M_record_228 ⟨Nat.le_of_ble_eq_true rfl, Nat.le_of_ble_eq_true rfl⟩ (fun u H locs hp hP hS => ?_)
                                          rw [hp] at hP
                                          refine lv_iload S.1 S.2.1 d_M_record_231 (lv_at hl 1 rfl) ?_
                                          refine lv_if_lt (tgt := 244) S.1 S.2.1 d_M_record_233 (by decide) (fun c_28 => ?_) (fun c_28 => ?_)
                                          · exact absurd c_28 (nI_pos (by omega))
                                          · refine lv_aload_n S.1 S.2.1 d_M_record_236 rfl (lv_at hl 3 rfl) ?_
                                            refine lv_iload S.1 S.2.1 d_M_record_237 (lv_at hl 1 rfl) ?_
                                            refine lv_iload S.1 S.2.1 d_M_record_239 (lv_at hl 0 rfl) ?_
                                            refine uVv (n := 2) (b := 0) (As := [.int (nI px), .int (nI i)]) (rest := []) S hK hN hP hS (c_M_keep hJ (up2 (mRp (mMk (mNo (up2 (up2 w 0 0 0) 0 0 0) F M (some px)) a b s0 M) s0 (some px) i) 10 (64 * s0 + i) (s16 (((mRp (mMk (mNo (up2 (up2 w 0 0 0) 0 0 0) F M (some px)) a b s0 M) s0 (some px) i) 2) i))) px i (by omega) (by omega)) ⟨hU, t4_83, t4_80, t1_8, by decide +kernel, by decide, by decide⟩ t4_82 tp_28 (by decide) mg_obj rfl rfl rfl hl.1 rfl (Nat.le_of_ble_eq_true rfl) d_M_record_241 ⟨Nat.le_of_ble_eq_true rfl, Nat.le_of_ble_eq_true rfl⟩ (fun u H locs hp hP hS => ?_)
                                            rw [hp] at hP
                                            refine lv_iinc (v := nI (i + 1)) (lv' := [(7, .int (nI (i + 1))), (5, .int (nI px)), (4, .int (nI s0)), (0, .ref (ad 0)), (1, .int a), (2, .int b), (3, .int x)]) S.1 S.2.1 d_M_record_244 hl (k := 0) rfl (nI_1 i) (by decide) rfl (fun ls hl => ?_)
                                            refine lv_goto (tgt := 198) S.1 S.2.1 d_M_record_247 (by decide) ?_
                                            exact ih _ _ ls (by rw [mRp, if_neg c_b]; exact hP) hS (lv_sub hl [0, 1, 2, 3, 4, 5, 6] rfl)
                                  exact L2 0 (Nat.zero_le _) _ _ ls hP hS (lv_sub hl [0, 3, 1, 4, 5, 6, 7] rfl)
                              · exact absurd (by decide) c_26
                            · refine lv_iconst (v := 2) S.1 S.2.1 d_M_record_154 (by decide) ?_
                              refine lv_goto (tgt := 159) S.1 S.2.1 d_M_record_155 (by decide) ?_
                              refine ur_put (k := 0) (v := .int 2) (g' := mG ca ad (up2 (up2 w 0 0 0) 0 0 2)) S hK hP (uD _ hJ) hS (by decide) mg_obj rfl (fun w h => hU w (in_M w h)) ty_M tyk_M nm_M 0 (by decide) (hU _ t3_160) rfl rfl rfl (Nat.le_of_ble_eq_true rfl) ms_thr d_M_record_159 (fun H locs hP hS => ?_)
                              refine lv_aload_n S.1 S.2.1 d_M_record_162 rfl (lv_at hl 4 rfl) ?_
                              refine ur_get (k := 0) (v := .int ((up2 (up2 w 0 0 0) 0 0 2) 0 0)) S hK hP (by decide) mg_obj rfl (fun w h => hU w (in_M w h)) 0 (by decide) (hU _ t3_160) rfl d_M_record_163 ?_
                              rw [up2_s]
                              refine lv_if_le (tgt := 171) S.1 S.2.1 d_M_record_166 (by decide) (fun c_29 => ?_) (fun c_29 => ?_)
                              · exact absurd c_29 (by decide)
                              · refine lv_iconst (v := 0) S.1 S.2.1 d_M_record_169 (by decide) ?_
                                exact uIret S hr hlk (up2 (up2 w 0 0 0) 0 0 2) hP hS (by unfold mRcP; rw [if_pos ⟨c_a0, c_a4, c_b0, c_b9⟩]; rw [if_pos (Or.inr (by rw [hF0, hN0]; exact c_600))]; exact ⟨rfl, rfl⟩) d_M_record_170
                      · exact absurd (by subst hM; exact nI_le (Nat.le_refl 64) (by decide)) c_h1
                    · intro i hi ih H locs ls hP hS hl
                      refine lv_iload S.1 S.2.1 d_M_record_68 (lv_at hl 0 rfl) ?_
                      refine lv_bipush (v := 64) S.1 S.2.1 d_M_record_70 (by decide) ?_
                      refine lv_icmp_ge (tgt := 119) S.1 S.2.1 d_M_record_72 (by decide) (fun c_h1 => ?_) (fun c_h1 => ?_)
                      · exact absurd c_h1 (nI_ge (b := 64) (by omega) (by decide))
                      · refine lv_iload S.1 S.2.1 d_M_record_75 (lv_at hl 1 rfl) ?_
                        refine lv_aload_n S.1 S.2.1 d_M_record_77 rfl (lv_at hl 4 rfl) ?_
                        refine ur_get (k := 0) (v := .ref (ad 2)) S hK hP (by decide) mg_obj rfl (fun w h => hU w (in_M w h)) 2 (by decide) (hU _ t3_162) rfl d_M_record_78 ?_
                        refine lv_iload S.1 S.2.1 d_M_record_81 (lv_at hl 0 rfl) ?_
                        refine ur_sald (k := 2) (n := 64) (f := ((up2 w 0 0 0) 2)) (j := i) S hK hP (by decide) 4 (mg_arr 2 (by decide)) rfl rfl (by omega) (by decide) d_M_record_83 ?_
                        refine lv_iconst (v := (-1)) S.1 S.2.1 d_M_record_84 (by decide) ?_
                        refine lv_icmp_eq (tgt := 109) S.1 S.2.1 d_M_record_85 (by decide) (fun c_v => ?_) (fun c_v => ?_)
                        · refine lv_iconst (v := 0) S.1 S.2.1 d_M_record_109 (by decide) ?_
                          refine lv_iadd S.1 S.2.1 d_M_record_110 ?_
                          refine lv_topi (fun x_30 ex_30 => ?_)
                          refine lv_istore (lv' := [(6, .int x_30), (7, .int (nI i)), (5, .int (nI px)), (4, .int (-1)), (0, .ref (ad 0)), (1, .int a), (2, .int b), (3, .int x)]) S.1 S.2.1 d_M_record_111 hl (by decide) rfl (fun ls hl => ?_)
                          refine lv_iinc (v := nI (i + 1)) (lv' := [(7, .int (nI (i + 1))), (6, .int x_30), (5, .int (nI px)), (4, .int (-1)), (0, .ref (ad 0)), (1, .int a), (2, .int b), (3, .int x)]) S.1 S.2.1 d_M_record_113 hl (k := 1) rfl (nI_1 i) (by decide) rfl (fun ls hl => ?_)
                          refine lv_goto (tgt := 68) S.1 S.2.1 d_M_record_116 (by decide) ?_
                          exact ih _ _ ls hP hS (by rw [show mPc (up2 w 0 0 0) (i + 1) = x_30 from by rw [ex_30, mPc, if_pos c_v]]; exact lv_sub hl [0, 1, 2, 3, 4, 5, 6, 7] rfl)
                        · refine lv_iload S.1 S.2.1 d_M_record_88 (lv_at hl 3 rfl) ?_
                          refine lv_if_lt (tgt := 105) S.1 S.2.1 d_M_record_90 (by decide) (fun c_31 => ?_) (fun c_31 => ?_)
                          · refine lv_iconst (v := 1) S.1 S.2.1 d_M_record_105 (by decide) ?_
                            refine lv_goto (tgt := 110) S.1 S.2.1 d_M_record_106 (by decide) ?_
                            refine lv_iadd S.1 S.2.1 d_M_record_110 ?_
                            refine lv_topi (fun x_32 ex_32 => ?_)
                            refine lv_istore (lv' := [(6, .int x_32), (7, .int (nI i)), (5, .int (nI px)), (4, .int (-1)), (0, .ref (ad 0)), (1, .int a), (2, .int b), (3, .int x)]) S.1 S.2.1 d_M_record_111 hl (by decide) rfl (fun ls hl => ?_)
                            refine lv_iinc (v := nI (i + 1)) (lv' := [(7, .int (nI (i + 1))), (6, .int x_32), (5, .int (nI px)), (4, .int (-1)), (0, .ref (ad 0)), (1, .int a), (2, .int b), (3, .int x)]) S.1 S.2.1 d_M_record_113 hl (k := 1) rfl (nI_1 i) (by decide) rfl (fun ls hl => ?_)
                            refine lv_goto (tgt := 68) S.1 S.2.1 d_M_record_116 (by decide) ?_
                            exact ih _ _ ls hP hS (by rw [show mPc (up2 w 0 0 0) (i + 1) = x_32 from by rw [ex_32, mPc, if_neg c_v]]; exact lv_sub hl [0, 1, 2, 3, 4, 5, 6, 7] rfl)
                          · exact absurd (by decide) c_31
                  exact L 0 (Nat.zero_le _) _ _ ls hP hS (lv_sub hl [0, 1, 2, 3, 4, 5, 6, 7] rfl)
            · have hp0 := mFnd_lt _ _ hF0
              refine lv_istore (lv' := [(4, .int (nI p0)), (0, .ref (ad 0)), (1, .int a), (2, .int b), (3, .int x)]) S.1 S.2.1 d_M_record_44 hl (by decide) rfl (fun ls hl => ?_)
              refine lv_iload_n S.1 S.2.1 d_M_record_46 rfl (lv_at hl 4 rfl) ?_
              refine lv_if_eq (tgt := 59) S.1 S.2.1 d_M_record_47 (by decide) (fun c_k => ?_) (fun c_k => ?_)
              · refine lv_iconst (v := (-1)) S.1 S.2.1 d_M_record_59 (by decide) ?_
                have hN0 : mNx (up2 w 0 0 0) a b x F = none := by rw [mNx, if_pos c_k]
                refine lv_istore (lv' := [(5, .int (-1)), (4, .int (nI p0)), (0, .ref (ad 0)), (1, .int a), (2, .int b), (3, .int x)]) S.1 S.2.1 d_M_record_60 hl (by decide) rfl (fun ls hl => ?_)
                refine lv_iconst (v := 0) S.1 S.2.1 d_M_record_62 (by decide) ?_
                refine lv_istore (lv' := [(6, .int 0), (5, .int (-1)), (4, .int (nI p0)), (0, .ref (ad 0)), (1, .int a), (2, .int b), (3, .int x)]) S.1 S.2.1 d_M_record_63 hl (by decide) rfl (fun ls hl => ?_)
                refine lv_iconst (v := 0) S.1 S.2.1 d_M_record_65 (by decide) ?_
                refine lv_istore (lv' := [(7, .int 0), (6, .int 0), (5, .int (-1)), (4, .int (nI p0)), (0, .ref (ad 0)), (1, .int a), (2, .int b), (3, .int x)]) S.1 S.2.1 d_M_record_66 hl (by decide) rfl (fun ls hl => ?_)
                have L : ∀ i, i ≤ M → ∀ (H : Heap) (locs : List Loc) (ls : Array Slot), va_P D clsAll (uw 22 ad (mG ca ad (up2 w 0 0 0))) H → va_S (uA 22 ad s.heap.size) s.heap H locs → lv_has ls 8 [(7, .int (nI i)), (6, .int (mKm (up2 w 0 0 0) p0 i)), (5, .int (-1)), (4, .int (nI p0)), (0, .ref (ad 0)), (1, .int a), (2, .int b), (3, .int x)] → uGi 4 94 D clsAll 22 ad (mG ca ad) (fun r u => mRcP w a b x F M r u) [.ref (ad 0), .int a, .int b, .int x] p l e s m below meth c H locs 68 ls [] := by
                  refine upTo M ?_ ?_
                  · intro H locs ls hP hS hl
                    refine lv_iload S.1 S.2.1 d_M_record_68 (lv_at hl 0 rfl) ?_
                    refine lv_bipush (v := 64) S.1 S.2.1 d_M_record_70 (by decide) ?_
                    refine lv_icmp_ge (tgt := 119) S.1 S.2.1 d_M_record_72 (by decide) (fun c_h1 => ?_) (fun c_h1 => ?_)
                    · refine lv_aload_n S.1 S.2.1 d_M_record_119 rfl (lv_at hl 4 rfl) ?_
                      refine lv_iload S.1 S.2.1 d_M_record_120 (lv_at hl 3 rfl) ?_
                      refine lv_if_ge (tgt := 134) S.1 S.2.1 d_M_record_122 (by decide) (fun c_33 => ?_) (fun c_33 => ?_)
                      · refine lv_aload_n S.1 S.2.1 d_M_record_134 rfl (lv_at hl 4 rfl) ?_
                        refine uVi (n := 0) (b := 0) (As := []) (rest := [.ref (ad 0)]) S hK hN hP hS (c_M_moveCount hJ (up2 w 0 0 0) M hM F hF) ⟨hU, t4_47, t4_44, t1_8, by decide +kernel, by decide, by decide⟩ t4_46 tp_19 (by decide) mg_obj rfl rfl rfl hl.1 rfl (Nat.le_of_ble_eq_true rfl) d_M_record_135 ⟨Nat.le_of_ble_eq_true rfl, Nat.le_of_ble_eq_true rfl⟩ (fun r u H locs hp hP hS => ?_)
                        obtain ⟨hu, rfl⟩ := hp
                        rw [hu] at hP
                        refine lv_iload S.1 S.2.1 d_M_record_138 (lv_at hl 1 rfl) ?_
                        refine lv_iadd S.1 S.2.1 d_M_record_140 ?_
                        refine lv_aload_n S.1 S.2.1 d_M_record_141 rfl (lv_at hl 4 rfl) ?_
                        refine lv_iload S.1 S.2.1 d_M_record_142 (lv_at hl 2 rfl) ?_
                        refine uVi (n := 1) (b := 0) (As := [.int (-1)]) (rest := [.int ((mMc (up2 w 0 0 0) M F) + (mKm (up2 w 0 0 0) p0 M)), .ref (ad 0)]) S hK hN hP hS (c_M_keptMovesO hJ (up2 w 0 0 0) M hM F hF none (fun q h => nomatch h)) ⟨hU, t4_55, t4_52, t1_8, by decide +kernel, by decide, by decide⟩ t4_54 tp_21 (by decide) mg_obj rfl rfl rfl hl.1 rfl (Nat.le_of_ble_eq_true rfl) d_M_record_144 ⟨Nat.le_of_ble_eq_true rfl, Nat.le_of_ble_eq_true rfl⟩ (fun r u H locs hp hP hS => ?_)
                        obtain ⟨hu, rfl⟩ := hp
                        rw [hu] at hP
                        refine lv_iadd S.1 S.2.1 d_M_record_147 ?_
                        refine lv_sipush (v := 600) S.1 S.2.1 d_M_record_148 (by decide) ?_
                        refine lv_icmp_le (tgt := 158) S.1 S.2.1 d_M_record_151 (by decide) (fun c_600 => ?_) (fun c_600 => ?_)
                        · refine lv_iconst (v := 0) S.1 S.2.1 d_M_record_158 (by decide) ?_
                          refine ur_put (k := 0) (v := .int 0) (g' := mG ca ad (up2 (up2 w 0 0 0) 0 0 0)) S hK hP (uD _ hJ) hS (by decide) mg_obj rfl (fun w h => hU w (in_M w h)) ty_M tyk_M nm_M 0 (by decide) (hU _ t3_160) rfl rfl rfl (Nat.le_of_ble_eq_true rfl) ms_thr d_M_record_159 (fun H locs hP hS => ?_)
                          refine lv_aload_n S.1 S.2.1 d_M_record_162 rfl (lv_at hl 4 rfl) ?_
                          refine ur_get (k := 0) (v := .int ((up2 (up2 w 0 0 0) 0 0 0) 0 0)) S hK hP (by decide) mg_obj rfl (fun w h => hU w (in_M w h)) 0 (by decide) (hU _ t3_160) rfl d_M_record_163 ?_
                          rw [up2_s]
                          refine lv_if_le (tgt := 171) S.1 S.2.1 d_M_record_166 (by decide) (fun c_34 => ?_) (fun c_34 => ?_)
                          · refine lv_aload_n S.1 S.2.1 d_M_record_171 rfl (lv_at hl 4 rfl) ?_
                            refine lv_iload S.1 S.2.1 d_M_record_172 (lv_at hl 2 rfl) ?_
                            refine uVv (n := 1) (b := 0) (As := [.int (-1)]) (rest := []) S hK hN hP hS (c_M_noteO hJ (up2 (up2 w 0 0 0) 0 0 0) M hM F hF none (fun q h => nomatch h)) ⟨hU, t4_59, t4_56, t1_8, by decide +kernel, by decide, by decide⟩ t4_58 tp_22 (by decide) mg_obj rfl rfl rfl hl.1 rfl (Nat.le_of_ble_eq_true rfl) d_M_record_174 ⟨Nat.le_of_ble_eq_true rfl, Nat.le_of_ble_eq_true rfl⟩ (fun u H locs hp hP hS => ?_)
                            rw [hp] at hP
                            refine lv_iload S.1 S.2.1 d_M_record_177 (lv_at hl 3 rfl) ?_
                            refine lv_if_ge (tgt := 191) S.1 S.2.1 d_M_record_179 (by decide) (fun c_35 => ?_) (fun c_35 => ?_)
                            · refine lv_iload S.1 S.2.1 d_M_record_191 (lv_at hl 3 rfl) ?_
                              refine lv_istore (lv' := [(4, .int (nI p0)), (7, .int (nI M)), (6, .int (mKm (up2 w 0 0 0) p0 M)), (5, .int (-1)), (0, .ref (ad 0)), (1, .int a), (2, .int b), (3, .int x)]) S.1 S.2.1 d_M_record_193 hl (by decide) rfl (fun ls hl => ?_)
                              refine lv_iconst (v := 0) S.1 S.2.1 d_M_record_195 (by decide) ?_
                              refine lv_istore (lv' := [(7, .int 0), (4, .int (nI p0)), (6, .int (mKm (up2 w 0 0 0) p0 M)), (5, .int (-1)), (0, .ref (ad 0)), (1, .int a), (2, .int b), (3, .int x)]) S.1 S.2.1 d_M_record_196 hl (by decide) rfl (fun ls hl => ?_)
                              have L2 : ∀ i, i ≤ M → ∀ (H : Heap) (locs : List Loc) (ls : Array Slot), va_P D clsAll (uw 22 ad (mG ca ad (mRp (mNo (up2 (up2 w 0 0 0) 0 0 0) F M none) p0 none i))) H → va_S (uA 22 ad s.heap.size) s.heap H locs → lv_has ls 8 [(7, .int (nI i)), (5, .int (-1)), (4, .int (nI p0)), (0, .ref (ad 0)), (1, .int a), (2, .int b), (3, .int x)] → uGi 4 94 D clsAll 22 ad (mG ca ad) (fun r u => mRcP w a b x F M r u) [.ref (ad 0), .int a, .int b, .int x] p l e s m below meth c H locs 198 ls [] := by
                                refine upTo M ?_ ?_
                                · intro H locs ls hP hS hl
                                  refine lv_iload S.1 S.2.1 d_M_record_198 (lv_at hl 0 rfl) ?_
                                  refine lv_bipush (v := 64) S.1 S.2.1 d_M_record_200 (by decide) ?_
                                  refine lv_icmp_ge (tgt := 250) S.1 S.2.1 d_M_record_202 (by decide) (fun c_h2 => ?_) (fun c_h2 => ?_)
                                  · refine lv_aload_n S.1 S.2.1 d_M_record_250 rfl (lv_at hl 3 rfl) ?_
                                    refine lv_iload S.1 S.2.1 d_M_record_251 (lv_at hl 2 rfl) ?_
                                    refine uVi (n := 1) (b := 0) (As := [.int (nI p0)]) (rest := []) S hK hN hP hS (c_M_movesOf hJ (mRp (mNo (up2 (up2 w 0 0 0) 0 0 0) F M none) p0 none M) M hM p0 (by omega)) ⟨hU, t4_51, t4_48, t1_8, by decide +kernel, by decide, by decide⟩ t4_50 tp_20 (by decide) mg_obj rfl rfl rfl hl.1 rfl (Nat.le_of_ble_eq_true rfl) d_M_record_253 ⟨Nat.le_of_ble_eq_true rfl, Nat.le_of_ble_eq_true rfl⟩ (fun r u H locs hp hP hS => ?_)
                                    obtain ⟨hu, rfl⟩ := hp
                                    rw [hu] at hP
                                    exact uIret S hr hlk (mRp (mNo (up2 (up2 w 0 0 0) 0 0 0) F M none) p0 none M) hP hS (by unfold mRcP; rw [if_pos ⟨c_a0, c_a4, c_b0, c_b9⟩]; rw [if_neg (fun z => z.elim (fun y => by rw [hF0] at y; exact nomatch y.1) (fun y => y (by rw [hF0, hN0]; exact c_600))), hF0, hN0]; exact ⟨rfl, rfl⟩) d_M_record_256
                                  · exact absurd (by subst hM; exact nI_le (Nat.le_refl 64) (by decide)) c_h2
                                · intro i hi ih H locs ls hP hS hl
                                  refine lv_iload S.1 S.2.1 d_M_record_198 (lv_at hl 0 rfl) ?_
                                  refine lv_bipush (v := 64) S.1 S.2.1 d_M_record_200 (by decide) ?_
                                  refine lv_icmp_ge (tgt := 250) S.1 S.2.1 d_M_record_202 (by decide) (fun c_h2 => ?_) (fun c_h2 => ?_)
                                  · exact absurd c_h2 (nI_ge (b := 64) (by omega) (by decide))
                                  · refine lv_aload_n S.1 S.2.1 d_M_record_205 rfl (lv_at hl 3 rfl) ?_
                                    refine ur_get (k := 0) (v := .ref (ad 2)) S hK hP (by decide) mg_obj rfl (fun w h => hU w (in_M w h)) 2 (by decide) (hU _ t3_162) rfl d_M_record_206 ?_
                                    refine lv_iload S.1 S.2.1 d_M_record_209 (lv_at hl 0 rfl) ?_
                                    refine ur_sald (k := 2) (n := 64) (f := ((mRp (mNo (up2 (up2 w 0 0 0) 0 0 0) F M none) p0 none i) 2)) (j := i) S hK hP (by decide) 4 (mg_arr 2 (by decide)) rfl rfl (by omega) (by decide) d_M_record_211 ?_
                                    refine lv_iconst (v := (-1)) S.1 S.2.1 d_M_record_212 (by decide) ?_
                                    refine lv_icmp_eq (tgt := 244) S.1 S.2.1 d_M_record_213 (by decide) (fun c_b => ?_) (fun c_b => ?_)
                                    · refine lv_iinc (v := nI (i + 1)) (lv' := [(7, .int (nI (i + 1))), (5, .int (-1)), (4, .int (nI p0)), (0, .ref (ad 0)), (1, .int a), (2, .int b), (3, .int x)]) S.1 S.2.1 d_M_record_244 hl (k := 0) rfl (nI_1 i) (by decide) rfl (fun ls hl => ?_)
                                      refine lv_goto (tgt := 198) S.1 S.2.1 d_M_record_247 (by decide) ?_
                                      exact ih _ _ ls (by rw [mRp, if_pos c_b]; exact hP) hS (lv_sub hl [0, 1, 2, 3, 4, 5, 6] rfl)
                                    · refine lv_aload_n S.1 S.2.1 d_M_record_216 rfl (lv_at hl 3 rfl) ?_
                                      refine lv_iload S.1 S.2.1 d_M_record_217 (lv_at hl 2 rfl) ?_
                                      refine lv_iload S.1 S.2.1 d_M_record_219 (lv_at hl 0 rfl) ?_
                                      refine lv_aload_n S.1 S.2.1 d_M_record_221 rfl (lv_at hl 3 rfl) ?_
                                      refine ur_get (k := 0) (v := .ref (ad 2)) S hK hP (by decide) mg_obj rfl (fun w h => hU w (in_M w h)) 2 (by decide) (hU _ t3_162) rfl d_M_record_222 ?_
                                      refine lv_iload S.1 S.2.1 d_M_record_225 (lv_at hl 0 rfl) ?_
                                      refine ur_sald (k := 2) (n := 64) (f := ((mRp (mNo (up2 (up2 w 0 0 0) 0 0 0) F M none) p0 none i) 2)) (j := i) S hK hP (by decide) 4 (mg_arr 2 (by decide)) rfl rfl (by omega) (by decide) d_M_record_227 ?_
                                      refine uVv (n := 3) (b := 0) (As := [.int (nI p0), .int (nI i), .int (((mRp (mNo (up2 (up2 w 0 0 0) 0 0 0) F M none) p0 none i) 2) i)]) (rest := []) S hK hN hP hS (c_M_put hJ (mRp (mNo (up2 (up2 w 0 0 0) 0 0 0) F M none) p0 none i) p0 i (by omega) (by omega) (((mRp (mNo (up2 (up2 w 0 0 0) 0 0 0) F M none) p0 none i) 2) i)) ⟨hU, t4_79, t4_76, t1_8, by decide +kernel, by decide, by decide⟩ t4_78 tp_27 (by decide) mg_obj rfl rfl rfl hl.1 rfl (Nat.le_of_ble_eq_true rfl) d_M_record_228 ⟨Nat.le_of_ble_eq_true rfl, Nat.le_of_ble_eq_true rfl⟩ (fun u H locs hp hP hS => ?_)
                                      rw [hp] at hP
                                      refine lv_iload S.1 S.2.1 d_M_record_231 (lv_at hl 1 rfl) ?_
                                      refine lv_if_lt (tgt := 244) S.1 S.2.1 d_M_record_233 (by decide) (fun c_36 => ?_) (fun c_36 => ?_)
                                      · refine lv_iinc (v := nI (i + 1)) (lv' := [(7, .int (nI (i + 1))), (5, .int (-1)), (4, .int (nI p0)), (0, .ref (ad 0)), (1, .int a), (2, .int b), (3, .int x)]) S.1 S.2.1 d_M_record_244 hl (k := 0) rfl (nI_1 i) (by decide) rfl (fun ls hl => ?_)
                                        refine lv_goto (tgt := 198) S.1 S.2.1 d_M_record_247 (by decide) ?_
                                        exact ih _ _ ls (by rw [mRp, if_neg c_b]; exact hP) hS (lv_sub hl [0, 1, 2, 3, 4, 5, 6] rfl)
                                      · exact absurd (by decide) c_36
                              exact L2 0 (Nat.zero_le _) _ _ ls hP hS (lv_sub hl [0, 3, 1, 4, 5, 6, 7] rfl)
                            · exact absurd (nI_pos' (by omega)) c_35
                          · exact absurd (by decide) c_34
                        · refine lv_iconst (v := 2) S.1 S.2.1 d_M_record_154 (by decide) ?_
                          refine lv_goto (tgt := 159) S.1 S.2.1 d_M_record_155 (by decide) ?_
                          refine ur_put (k := 0) (v := .int 2) (g' := mG ca ad (up2 (up2 w 0 0 0) 0 0 2)) S hK hP (uD _ hJ) hS (by decide) mg_obj rfl (fun w h => hU w (in_M w h)) ty_M tyk_M nm_M 0 (by decide) (hU _ t3_160) rfl rfl rfl (Nat.le_of_ble_eq_true rfl) ms_thr d_M_record_159 (fun H locs hP hS => ?_)
                          refine lv_aload_n S.1 S.2.1 d_M_record_162 rfl (lv_at hl 4 rfl) ?_
                          refine ur_get (k := 0) (v := .int ((up2 (up2 w 0 0 0) 0 0 2) 0 0)) S hK hP (by decide) mg_obj rfl (fun w h => hU w (in_M w h)) 0 (by decide) (hU _ t3_160) rfl d_M_record_163 ?_
                          rw [up2_s]
                          refine lv_if_le (tgt := 171) S.1 S.2.1 d_M_record_166 (by decide) (fun c_37 => ?_) (fun c_37 => ?_)
                          · exact absurd c_37 (by decide)
                          · refine lv_iconst (v := 0) S.1 S.2.1 d_M_record_169 (by decide) ?_
                            exact uIret S hr hlk (up2 (up2 w 0 0 0) 0 0 2) hP hS (by unfold mRcP; rw [if_pos ⟨c_a0, c_a4, c_b0, c_b9⟩]; rw [if_pos (Or.inr (by rw [hF0, hN0]; exact c_600))]; exact ⟨rfl, rfl⟩) d_M_record_170
                      · exact absurd (nI_pos' (by omega)) c_33
                    · exact absurd (by subst hM; exact nI_le (Nat.le_refl 64) (by decide)) c_h1
                  · intro i hi ih H locs ls hP hS hl
                    refine lv_iload S.1 S.2.1 d_M_record_68 (lv_at hl 0 rfl) ?_
                    refine lv_bipush (v := 64) S.1 S.2.1 d_M_record_70 (by decide) ?_
                    refine lv_icmp_ge (tgt := 119) S.1 S.2.1 d_M_record_72 (by decide) (fun c_h1 => ?_) (fun c_h1 => ?_)
                    · exact absurd c_h1 (nI_ge (b := 64) (by omega) (by decide))
                    · refine lv_iload S.1 S.2.1 d_M_record_75 (lv_at hl 1 rfl) ?_
                      refine lv_aload_n S.1 S.2.1 d_M_record_77 rfl (lv_at hl 4 rfl) ?_
                      refine ur_get (k := 0) (v := .ref (ad 2)) S hK hP (by decide) mg_obj rfl (fun w h => hU w (in_M w h)) 2 (by decide) (hU _ t3_162) rfl d_M_record_78 ?_
                      refine lv_iload S.1 S.2.1 d_M_record_81 (lv_at hl 0 rfl) ?_
                      refine ur_sald (k := 2) (n := 64) (f := ((up2 w 0 0 0) 2)) (j := i) S hK hP (by decide) 4 (mg_arr 2 (by decide)) rfl rfl (by omega) (by decide) d_M_record_83 ?_
                      refine lv_iconst (v := (-1)) S.1 S.2.1 d_M_record_84 (by decide) ?_
                      refine lv_icmp_eq (tgt := 109) S.1 S.2.1 d_M_record_85 (by decide) (fun c_v => ?_) (fun c_v => ?_)
                      · refine lv_iconst (v := 0) S.1 S.2.1 d_M_record_109 (by decide) ?_
                        refine lv_iadd S.1 S.2.1 d_M_record_110 ?_
                        refine lv_topi (fun x_38 ex_38 => ?_)
                        refine lv_istore (lv' := [(6, .int x_38), (7, .int (nI i)), (5, .int (-1)), (4, .int (nI p0)), (0, .ref (ad 0)), (1, .int a), (2, .int b), (3, .int x)]) S.1 S.2.1 d_M_record_111 hl (by decide) rfl (fun ls hl => ?_)
                        refine lv_iinc (v := nI (i + 1)) (lv' := [(7, .int (nI (i + 1))), (6, .int x_38), (5, .int (-1)), (4, .int (nI p0)), (0, .ref (ad 0)), (1, .int a), (2, .int b), (3, .int x)]) S.1 S.2.1 d_M_record_113 hl (k := 1) rfl (nI_1 i) (by decide) rfl (fun ls hl => ?_)
                        refine lv_goto (tgt := 68) S.1 S.2.1 d_M_record_116 (by decide) ?_
                        exact ih _ _ ls hP hS (by rw [show mKm (up2 w 0 0 0) p0 (i + 1) = x_38 from by rw [ex_38, mKm, if_neg (fun z => z.1 c_v)]]; exact lv_sub hl [0, 1, 2, 3, 4, 5, 6, 7] rfl)
                      · refine lv_iload S.1 S.2.1 d_M_record_88 (lv_at hl 3 rfl) ?_
                        refine lv_if_lt (tgt := 105) S.1 S.2.1 d_M_record_90 (by decide) (fun c_39 => ?_) (fun c_39 => ?_)
                        · exact absurd c_39 (nI_pos (by omega))
                        · refine lv_aload_n S.1 S.2.1 d_M_record_93 rfl (lv_at hl 4 rfl) ?_
                          refine lv_iload S.1 S.2.1 d_M_record_94 (lv_at hl 3 rfl) ?_
                          refine lv_iload S.1 S.2.1 d_M_record_96 (lv_at hl 0 rfl) ?_
                          refine uVi (n := 2) (b := 0) (As := [.int (nI p0), .int (nI i)]) (rest := [.int (mKm (up2 w 0 0 0) p0 i)]) S hK hN hP hS (c_M_moveOf hJ (up2 w 0 0 0) p0 i (by omega) (by omega)) ⟨hU, t4_39, t4_36, t1_8, by decide +kernel, by decide, by decide⟩ t4_38 tp_17 (by decide) mg_obj rfl rfl rfl hl.1 rfl (Nat.le_of_ble_eq_true rfl) d_M_record_98 ⟨Nat.le_of_ble_eq_true rfl, Nat.le_of_ble_eq_true rfl⟩ (fun r u H locs hp hP hS => ?_)
                          obtain ⟨hu, rfl⟩ := hp
                          rw [hu] at hP
                          refine lv_iconst (v := (-1)) S.1 S.2.1 d_M_record_101 (by decide) ?_
                          refine lv_icmp_ne (tgt := 109) S.1 S.2.1 d_M_record_102 (by decide) (fun c_mo => ?_) (fun c_mo => ?_)
                          · refine lv_iconst (v := 0) S.1 S.2.1 d_M_record_109 (by decide) ?_
                            refine lv_iadd S.1 S.2.1 d_M_record_110 ?_
                            refine lv_topi (fun x_40 ex_40 => ?_)
                            refine lv_istore (lv' := [(6, .int x_40), (7, .int (nI i)), (5, .int (-1)), (4, .int (nI p0)), (0, .ref (ad 0)), (1, .int a), (2, .int b), (3, .int x)]) S.1 S.2.1 d_M_record_111 hl (by decide) rfl (fun ls hl => ?_)
                            refine lv_iinc (v := nI (i + 1)) (lv' := [(7, .int (nI (i + 1))), (6, .int x_40), (5, .int (-1)), (4, .int (nI p0)), (0, .ref (ad 0)), (1, .int a), (2, .int b), (3, .int x)]) S.1 S.2.1 d_M_record_113 hl (k := 1) rfl (nI_1 i) (by decide) rfl (fun ls hl => ?_)
                            refine lv_goto (tgt := 68) S.1 S.2.1 d_M_record_116 (by decide) ?_
                            exact ih _ _ ls hP hS (by rw [show mKm (up2 w 0 0 0) p0 (i + 1) = x_40 from by rw [ex_40, mKm, if_neg (fun z => c_mo z.2)]]; exact lv_sub hl [0, 1, 2, 3, 4, 5, 6, 7] rfl)
                          · refine lv_iconst (v := 1) S.1 S.2.1 d_M_record_105 (by decide) ?_
                            refine lv_goto (tgt := 110) S.1 S.2.1 d_M_record_106 (by decide) ?_
                            refine lv_iadd S.1 S.2.1 d_M_record_110 ?_
                            refine lv_topi (fun x_41 ex_41 => ?_)
                            refine lv_istore (lv' := [(6, .int x_41), (7, .int (nI i)), (5, .int (-1)), (4, .int (nI p0)), (0, .ref (ad 0)), (1, .int a), (2, .int b), (3, .int x)]) S.1 S.2.1 d_M_record_111 hl (by decide) rfl (fun ls hl => ?_)
                            refine lv_iinc (v := nI (i + 1)) (lv' := [(7, .int (nI (i + 1))), (6, .int x_41), (5, .int (-1)), (4, .int (nI p0)), (0, .ref (ad 0)), (1, .int a), (2, .int b), (3, .int x)]) S.1 S.2.1 d_M_record_113 hl (k := 1) rfl (nI_1 i) (by decide) rfl (fun ls hl => ?_)
                            refine lv_goto (tgt := 68) S.1 S.2.1 d_M_record_116 (by decide) ?_
                            exact ih _ _ ls hP hS (by rw [show mKm (up2 w 0 0 0) p0 (i + 1) = x_41 from by rw [ex_41, mKm, if_pos ⟨c_v, c_mo⟩]]; exact lv_sub hl [0, 1, 2, 3, 4, 5, 6, 7] rfl)
                exact L 0 (Nat.zero_le _) _ _ ls hP hS (lv_sub hl [0, 1, 2, 3, 4, 5, 6, 7] rfl)
              · refine lv_aload_n S.1 S.2.1 d_M_record_50 rfl (lv_at hl 1 rfl) ?_
                refine lv_iload_n S.1 S.2.1 d_M_record_51 rfl (lv_at hl 2 rfl) ?_
                refine lv_iload_n S.1 S.2.1 d_M_record_52 rfl (lv_at hl 3 rfl) ?_
                refine uVi (n := 2) (b := 0) (As := [.int a, .int b]) (rest := []) S hK hN hP hS (c_M_above hJ (up2 w 0 0 0) F hF a b) ⟨hU, t4_35, t4_32, t1_8, by decide +kernel, by decide, by decide⟩ t4_34 tp_16 (by decide) mg_obj rfl rfl rfl hl.1 rfl (Nat.le_of_ble_eq_true rfl) d_M_record_53 ⟨Nat.le_of_ble_eq_true rfl, Nat.le_of_ble_eq_true rfl⟩ (fun r u H locs hp hP hS => ?_)
                obtain ⟨hu, rfl⟩ := hp
                rw [hu] at hP
                refine lv_goto (tgt := 60) S.1 S.2.1 d_M_record_56 (by decide) ?_
                rcases hX0 : mAbv (up2 w 0 0 0) a b F with _ | px
                · have hN0 : mNx (up2 w 0 0 0) a b x F = none := by rw [mNx, if_neg c_k, hX0]
                  refine lv_istore (lv' := [(5, .int (-1)), (4, .int (nI p0)), (0, .ref (ad 0)), (1, .int a), (2, .int b), (3, .int x)]) S.1 S.2.1 d_M_record_60 hl (by decide) rfl (fun ls hl => ?_)
                  refine lv_iconst (v := 0) S.1 S.2.1 d_M_record_62 (by decide) ?_
                  refine lv_istore (lv' := [(6, .int 0), (5, .int (-1)), (4, .int (nI p0)), (0, .ref (ad 0)), (1, .int a), (2, .int b), (3, .int x)]) S.1 S.2.1 d_M_record_63 hl (by decide) rfl (fun ls hl => ?_)
                  refine lv_iconst (v := 0) S.1 S.2.1 d_M_record_65 (by decide) ?_
                  refine lv_istore (lv' := [(7, .int 0), (6, .int 0), (5, .int (-1)), (4, .int (nI p0)), (0, .ref (ad 0)), (1, .int a), (2, .int b), (3, .int x)]) S.1 S.2.1 d_M_record_66 hl (by decide) rfl (fun ls hl => ?_)
                  have L : ∀ i, i ≤ M → ∀ (H : Heap) (locs : List Loc) (ls : Array Slot), va_P D clsAll (uw 22 ad (mG ca ad (up2 w 0 0 0))) H → va_S (uA 22 ad s.heap.size) s.heap H locs → lv_has ls 8 [(7, .int (nI i)), (6, .int (mKm (up2 w 0 0 0) p0 i)), (5, .int (-1)), (4, .int (nI p0)), (0, .ref (ad 0)), (1, .int a), (2, .int b), (3, .int x)] → uGi 4 94 D clsAll 22 ad (mG ca ad) (fun r u => mRcP w a b x F M r u) [.ref (ad 0), .int a, .int b, .int x] p l e s m below meth c H locs 68 ls [] := by
                    refine upTo M ?_ ?_
                    · intro H locs ls hP hS hl
                      refine lv_iload S.1 S.2.1 d_M_record_68 (lv_at hl 0 rfl) ?_
                      refine lv_bipush (v := 64) S.1 S.2.1 d_M_record_70 (by decide) ?_
                      refine lv_icmp_ge (tgt := 119) S.1 S.2.1 d_M_record_72 (by decide) (fun c_h1 => ?_) (fun c_h1 => ?_)
                      · refine lv_aload_n S.1 S.2.1 d_M_record_119 rfl (lv_at hl 4 rfl) ?_
                        refine lv_iload S.1 S.2.1 d_M_record_120 (lv_at hl 3 rfl) ?_
                        refine lv_if_ge (tgt := 134) S.1 S.2.1 d_M_record_122 (by decide) (fun c_42 => ?_) (fun c_42 => ?_)
                        · refine lv_aload_n S.1 S.2.1 d_M_record_134 rfl (lv_at hl 4 rfl) ?_
                          refine uVi (n := 0) (b := 0) (As := []) (rest := [.ref (ad 0)]) S hK hN hP hS (c_M_moveCount hJ (up2 w 0 0 0) M hM F hF) ⟨hU, t4_47, t4_44, t1_8, by decide +kernel, by decide, by decide⟩ t4_46 tp_19 (by decide) mg_obj rfl rfl rfl hl.1 rfl (Nat.le_of_ble_eq_true rfl) d_M_record_135 ⟨Nat.le_of_ble_eq_true rfl, Nat.le_of_ble_eq_true rfl⟩ (fun r u H locs hp hP hS => ?_)
                          obtain ⟨hu, rfl⟩ := hp
                          rw [hu] at hP
                          refine lv_iload S.1 S.2.1 d_M_record_138 (lv_at hl 1 rfl) ?_
                          refine lv_iadd S.1 S.2.1 d_M_record_140 ?_
                          refine lv_aload_n S.1 S.2.1 d_M_record_141 rfl (lv_at hl 4 rfl) ?_
                          refine lv_iload S.1 S.2.1 d_M_record_142 (lv_at hl 2 rfl) ?_
                          refine uVi (n := 1) (b := 0) (As := [.int (-1)]) (rest := [.int ((mMc (up2 w 0 0 0) M F) + (mKm (up2 w 0 0 0) p0 M)), .ref (ad 0)]) S hK hN hP hS (c_M_keptMovesO hJ (up2 w 0 0 0) M hM F hF none (fun q h => nomatch h)) ⟨hU, t4_55, t4_52, t1_8, by decide +kernel, by decide, by decide⟩ t4_54 tp_21 (by decide) mg_obj rfl rfl rfl hl.1 rfl (Nat.le_of_ble_eq_true rfl) d_M_record_144 ⟨Nat.le_of_ble_eq_true rfl, Nat.le_of_ble_eq_true rfl⟩ (fun r u H locs hp hP hS => ?_)
                          obtain ⟨hu, rfl⟩ := hp
                          rw [hu] at hP
                          refine lv_iadd S.1 S.2.1 d_M_record_147 ?_
                          refine lv_sipush (v := 600) S.1 S.2.1 d_M_record_148 (by decide) ?_
                          refine lv_icmp_le (tgt := 158) S.1 S.2.1 d_M_record_151 (by decide) (fun c_600 => ?_) (fun c_600 => ?_)
                          · refine lv_iconst (v := 0) S.1 S.2.1 d_M_record_158 (by decide) ?_
                            refine ur_put (k := 0) (v := .int 0) (g' := mG ca ad (up2 (up2 w 0 0 0) 0 0 0)) S hK hP (uD _ hJ) hS (by decide) mg_obj rfl (fun w h => hU w (in_M w h)) ty_M tyk_M nm_M 0 (by decide) (hU _ t3_160) rfl rfl rfl (Nat.le_of_ble_eq_true rfl) ms_thr d_M_record_159 (fun H locs hP hS => ?_)
                            refine lv_aload_n S.1 S.2.1 d_M_record_162 rfl (lv_at hl 4 rfl) ?_
                            refine ur_get (k := 0) (v := .int ((up2 (up2 w 0 0 0) 0 0 0) 0 0)) S hK hP (by decide) mg_obj rfl (fun w h => hU w (in_M w h)) 0 (by decide) (hU _ t3_160) rfl d_M_record_163 ?_
                            rw [up2_s]
                            refine lv_if_le (tgt := 171) S.1 S.2.1 d_M_record_166 (by decide) (fun c_43 => ?_) (fun c_43 => ?_)
                            · refine lv_aload_n S.1 S.2.1 d_M_record_171 rfl (lv_at hl 4 rfl) ?_
                              refine lv_iload S.1 S.2.1 d_M_record_172 (lv_at hl 2 rfl) ?_
                              refine uVv (n := 1) (b := 0) (As := [.int (-1)]) (rest := []) S hK hN hP hS (c_M_noteO hJ (up2 (up2 w 0 0 0) 0 0 0) M hM F hF none (fun q h => nomatch h)) ⟨hU, t4_59, t4_56, t1_8, by decide +kernel, by decide, by decide⟩ t4_58 tp_22 (by decide) mg_obj rfl rfl rfl hl.1 rfl (Nat.le_of_ble_eq_true rfl) d_M_record_174 ⟨Nat.le_of_ble_eq_true rfl, Nat.le_of_ble_eq_true rfl⟩ (fun u H locs hp hP hS => ?_)
                              rw [hp] at hP
                              refine lv_iload S.1 S.2.1 d_M_record_177 (lv_at hl 3 rfl) ?_
                              refine lv_if_ge (tgt := 191) S.1 S.2.1 d_M_record_179 (by decide) (fun c_44 => ?_) (fun c_44 => ?_)
                              · refine lv_iload S.1 S.2.1 d_M_record_191 (lv_at hl 3 rfl) ?_
                                refine lv_istore (lv' := [(4, .int (nI p0)), (7, .int (nI M)), (6, .int (mKm (up2 w 0 0 0) p0 M)), (5, .int (-1)), (0, .ref (ad 0)), (1, .int a), (2, .int b), (3, .int x)]) S.1 S.2.1 d_M_record_193 hl (by decide) rfl (fun ls hl => ?_)
                                refine lv_iconst (v := 0) S.1 S.2.1 d_M_record_195 (by decide) ?_
                                refine lv_istore (lv' := [(7, .int 0), (4, .int (nI p0)), (6, .int (mKm (up2 w 0 0 0) p0 M)), (5, .int (-1)), (0, .ref (ad 0)), (1, .int a), (2, .int b), (3, .int x)]) S.1 S.2.1 d_M_record_196 hl (by decide) rfl (fun ls hl => ?_)
                                have L2 : ∀ i, i ≤ M → ∀ (H : Heap) (locs : List Loc) (ls : Array Slot), va_P D clsAll (uw 22 ad (mG ca ad (mRp (mNo (up2 (up2 w 0 0 0) 0 0 0) F M none) p0 none i))) H → va_S (uA 22 ad s.heap.size) s.heap H locs → lv_has ls 8 [(7, .int (nI i)), (5, .int (-1)), (4, .int (nI p0)), (0, .ref (ad 0)), (1, .int a), (2, .int b), (3, .int x)] → uGi 4 94 D clsAll 22 ad (mG ca ad) (fun r u => mRcP w a b x F M r u) [.ref (ad 0), .int a, .int b, .int x] p l e s m below meth c H locs 198 ls [] := by
                                  refine upTo M ?_ ?_
                                  · intro H locs ls hP hS hl
                                    refine lv_iload S.1 S.2.1 d_M_record_198 (lv_at hl 0 rfl) ?_
                                    refine lv_bipush (v := 64) S.1 S.2.1 d_M_record_200 (by decide) ?_
                                    refine lv_icmp_ge (tgt := 250) S.1 S.2.1 d_M_record_202 (by decide) (fun c_h2 => ?_) (fun c_h2 => ?_)
                                    · refine lv_aload_n S.1 S.2.1 d_M_record_250 rfl (lv_at hl 3 rfl) ?_
                                      refine lv_iload S.1 S.2.1 d_M_record_251 (lv_at hl 2 rfl) ?_
                                      refine uVi (n := 1) (b := 0) (As := [.int (nI p0)]) (rest := []) S hK hN hP hS (c_M_movesOf hJ (mRp (mNo (up2 (up2 w 0 0 0) 0 0 0) F M none) p0 none M) M hM p0 (by omega)) ⟨hU, t4_51, t4_48, t1_8, by decide +kernel, by decide, by decide⟩ t4_50 tp_20 (by decide) mg_obj rfl rfl rfl hl.1 rfl (Nat.le_of_ble_eq_true rfl) d_M_record_253 ⟨Nat.le_of_ble_eq_true rfl, Nat.le_of_ble_eq_true rfl⟩ (fun r u H locs hp hP hS => ?_)
                                      obtain ⟨hu, rfl⟩ := hp
                                      rw [hu] at hP
                                      exact uIret S hr hlk (mRp (mNo (up2 (up2 w 0 0 0) 0 0 0) F M none) p0 none M) hP hS (by unfold mRcP; rw [if_pos ⟨c_a0, c_a4, c_b0, c_b9⟩]; rw [if_neg (fun z => z.elim (fun y => by rw [hF0] at y; exact nomatch y.1) (fun y => y (by rw [hF0, hN0]; exact c_600))), hF0, hN0]; exact ⟨rfl, rfl⟩) d_M_record_256
                                    · exact absurd (by subst hM; exact nI_le (Nat.le_refl 64) (by decide)) c_h2
                                  · intro i hi ih H locs ls hP hS hl
                                    refine lv_iload S.1 S.2.1 d_M_record_198 (lv_at hl 0 rfl) ?_
                                    refine lv_bipush (v := 64) S.1 S.2.1 d_M_record_200 (by decide) ?_
                                    refine lv_icmp_ge (tgt := 250) S.1 S.2.1 d_M_record_202 (by decide) (fun c_h2 => ?_) (fun c_h2 => ?_)
                                    · exact absurd c_h2 (nI_ge (b := 64) (by omega) (by decide))
                                    · refine lv_aload_n S.1 S.2.1 d_M_record_205 rfl (lv_at hl 3 rfl) ?_
                                      refine ur_get (k := 0) (v := .ref (ad 2)) S hK hP (by decide) mg_obj rfl (fun w h => hU w (in_M w h)) 2 (by decide) (hU _ t3_162) rfl d_M_record_206 ?_
                                      refine lv_iload S.1 S.2.1 d_M_record_209 (lv_at hl 0 rfl) ?_
                                      refine ur_sald (k := 2) (n := 64) (f := ((mRp (mNo (up2 (up2 w 0 0 0) 0 0 0) F M none) p0 none i) 2)) (j := i) S hK hP (by decide) 4 (mg_arr 2 (by decide)) rfl rfl (by omega) (by decide) d_M_record_211 ?_
                                      refine lv_iconst (v := (-1)) S.1 S.2.1 d_M_record_212 (by decide) ?_
                                      refine lv_icmp_eq (tgt := 244) S.1 S.2.1 d_M_record_213 (by decide) (fun c_b => ?_) (fun c_b => ?_)
                                      · refine lv_iinc (v := nI (i + 1)) (lv' := [(7, .int (nI (i + 1))), (5, .int (-1)), (4, .int (nI p0)), (0, .ref (ad 0)), (1, .int a), (2, .int b), (3, .int x)]) S.1 S.2.1 d_M_record_244 hl (k := 0) rfl (nI_1 i) (by decide) rfl (fun ls hl => ?_)
                                        refine lv_goto (tgt := 198) S.1 S.2.1 d_M_record_247 (by decide) ?_
                                        exact ih _ _ ls (by rw [mRp, if_pos c_b]; exact hP) hS (lv_sub hl [0, 1, 2, 3, 4, 5, 6] rfl)
                                      · refine lv_aload_n S.1 S.2.1 d_M_record_216 rfl (lv_at hl 3 rfl) ?_
                                        refine lv_iload S.1 S.2.1 d_M_record_217 (lv_at hl 2 rfl) ?_
                                        refine lv_iload S.1 S.2.1 d_M_record_219 (lv_at hl 0 rfl) ?_
                                        refine lv_aload_n S.1 S.2.1 d_M_record_221 rfl (lv_at hl 3 rfl) ?_
                                        refine ur_get (k := 0) (v := .ref (ad 2)) S hK hP (by decide) mg_obj rfl (fun w h => hU w (in_M w h)) 2 (by decide) (hU _ t3_162) rfl d_M_record_222 ?_
                                        refine lv_iload S.1 S.2.1 d_M_record_225 (lv_at hl 0 rfl) ?_
                                        refine ur_sald (k := 2) (n := 64) (f := ((mRp (mNo (up2 (up2 w 0 0 0) 0 0 0) F M none) p0 none i) 2)) (j := i) S hK hP (by decide) 4 (mg_arr 2 (by decide)) rfl rfl (by omega) (by decide) d_M_record_227 ?_
                                        refine uVv (n := 3) (b := 0) (As := [.int (nI p0), .int (nI i), .int (((mRp (mNo (up2 (up2 w 0 0 0) 0 0 0) F M none) p0 none i) 2) i)]) (rest := []) S hK hN hP hS (c_M_put hJ (mRp (mNo (up2 (up2 w 0 0 0) 0 0 0) F M none) p0 none i) p0 i (by omega) (by omega) (((mRp (mNo (up2 (up2 w 0 0 0) 0 0 0) F M none) p0 none i) 2) i)) ⟨hU, t4_79, t4_76, t1_8, by decide +kernel, by decide, by decide⟩ t4_78 tp_27 (by decide) mg_obj rfl rfl rfl hl.1 rfl (Nat.le_of_ble_eq_true rfl) d_M_record_228 ⟨Nat.le_of_ble_eq_true rfl, Nat.le_of_ble_eq_true rfl⟩ (fun u H locs hp hP hS => ?_)
                                        rw [hp] at hP
                                        refine lv_iload S.1 S.2.1 d_M_record_231 (lv_at hl 1 rfl) ?_
                                        refine lv_if_lt (tgt := 244) S.1 S.2.1 d_M_record_233 (by decide) (fun c_45 => ?_) (fun c_45 => ?_)
                                        · refine lv_iinc (v := nI (i + 1)) (lv' := [(7, .int (nI (i + 1))), (5, .int (-1)), (4, .int (nI p0)), (0, .ref (ad 0)), (1, .int a), (2, .int b), (3, .int x)]) S.1 S.2.1 d_M_record_244 hl (k := 0) rfl (nI_1 i) (by decide) rfl (fun ls hl => ?_)
                                          refine lv_goto (tgt := 198) S.1 S.2.1 d_M_record_247 (by decide) ?_
                                          exact ih _ _ ls (by rw [mRp, if_neg c_b]; exact hP) hS (lv_sub hl [0, 1, 2, 3, 4, 5, 6] rfl)
                                        · exact absurd (by decide) c_45
                                exact L2 0 (Nat.zero_le _) _ _ ls hP hS (lv_sub hl [0, 3, 1, 4, 5, 6, 7] rfl)
                              · exact absurd (nI_pos' (by omega)) c_44
                            · exact absurd (by decide) c_43
                          · refine lv_iconst (v := 2) S.1 S.2.1 d_M_record_154 (by decide) ?_
                            refine lv_goto (tgt := 159) S.1 S.2.1 d_M_record_155 (by decide) ?_
                            refine ur_put (k := 0) (v := .int 2) (g' := mG ca ad (up2 (up2 w 0 0 0) 0 0 2)) S hK hP (uD _ hJ) hS (by decide) mg_obj rfl (fun w h => hU w (in_M w h)) ty_M tyk_M nm_M 0 (by decide) (hU _ t3_160) rfl rfl rfl (Nat.le_of_ble_eq_true rfl) ms_thr d_M_record_159 (fun H locs hP hS => ?_)
                            refine lv_aload_n S.1 S.2.1 d_M_record_162 rfl (lv_at hl 4 rfl) ?_
                            refine ur_get (k := 0) (v := .int ((up2 (up2 w 0 0 0) 0 0 2) 0 0)) S hK hP (by decide) mg_obj rfl (fun w h => hU w (in_M w h)) 0 (by decide) (hU _ t3_160) rfl d_M_record_163 ?_
                            rw [up2_s]
                            refine lv_if_le (tgt := 171) S.1 S.2.1 d_M_record_166 (by decide) (fun c_46 => ?_) (fun c_46 => ?_)
                            · exact absurd c_46 (by decide)
                            · refine lv_iconst (v := 0) S.1 S.2.1 d_M_record_169 (by decide) ?_
                              exact uIret S hr hlk (up2 (up2 w 0 0 0) 0 0 2) hP hS (by unfold mRcP; rw [if_pos ⟨c_a0, c_a4, c_b0, c_b9⟩]; rw [if_pos (Or.inr (by rw [hF0, hN0]; exact c_600))]; exact ⟨rfl, rfl⟩) d_M_record_170
                        · exact absurd (nI_pos' (by omega)) c_42
                      · exact absurd (by subst hM; exact nI_le (Nat.le_refl 64) (by decide)) c_h1
                    · intro i hi ih H locs ls hP hS hl
                      refine lv_iload S.1 S.2.1 d_M_record_68 (lv_at hl 0 rfl) ?_
                      refine lv_bipush (v := 64) S.1 S.2.1 d_M_record_70 (by decide) ?_
                      refine lv_icmp_ge (tgt := 119) S.1 S.2.1 d_M_record_72 (by decide) (fun c_h1 => ?_) (fun c_h1 => ?_)
                      · exact absurd c_h1 (nI_ge (b := 64) (by omega) (by decide))
                      · refine lv_iload S.1 S.2.1 d_M_record_75 (lv_at hl 1 rfl) ?_
                        refine lv_aload_n S.1 S.2.1 d_M_record_77 rfl (lv_at hl 4 rfl) ?_
                        refine ur_get (k := 0) (v := .ref (ad 2)) S hK hP (by decide) mg_obj rfl (fun w h => hU w (in_M w h)) 2 (by decide) (hU _ t3_162) rfl d_M_record_78 ?_
                        refine lv_iload S.1 S.2.1 d_M_record_81 (lv_at hl 0 rfl) ?_
                        refine ur_sald (k := 2) (n := 64) (f := ((up2 w 0 0 0) 2)) (j := i) S hK hP (by decide) 4 (mg_arr 2 (by decide)) rfl rfl (by omega) (by decide) d_M_record_83 ?_
                        refine lv_iconst (v := (-1)) S.1 S.2.1 d_M_record_84 (by decide) ?_
                        refine lv_icmp_eq (tgt := 109) S.1 S.2.1 d_M_record_85 (by decide) (fun c_v => ?_) (fun c_v => ?_)
                        · refine lv_iconst (v := 0) S.1 S.2.1 d_M_record_109 (by decide) ?_
                          refine lv_iadd S.1 S.2.1 d_M_record_110 ?_
                          refine lv_topi (fun x_47 ex_47 => ?_)
                          refine lv_istore (lv' := [(6, .int x_47), (7, .int (nI i)), (5, .int (-1)), (4, .int (nI p0)), (0, .ref (ad 0)), (1, .int a), (2, .int b), (3, .int x)]) S.1 S.2.1 d_M_record_111 hl (by decide) rfl (fun ls hl => ?_)
                          refine lv_iinc (v := nI (i + 1)) (lv' := [(7, .int (nI (i + 1))), (6, .int x_47), (5, .int (-1)), (4, .int (nI p0)), (0, .ref (ad 0)), (1, .int a), (2, .int b), (3, .int x)]) S.1 S.2.1 d_M_record_113 hl (k := 1) rfl (nI_1 i) (by decide) rfl (fun ls hl => ?_)
                          refine lv_goto (tgt := 68) S.1 S.2.1 d_M_record_116 (by decide) ?_
                          exact ih _ _ ls hP hS (by rw [show mKm (up2 w 0 0 0) p0 (i + 1) = x_47 from by rw [ex_47, mKm, if_neg (fun z => z.1 c_v)]]; exact lv_sub hl [0, 1, 2, 3, 4, 5, 6, 7] rfl)
                        · refine lv_iload S.1 S.2.1 d_M_record_88 (lv_at hl 3 rfl) ?_
                          refine lv_if_lt (tgt := 105) S.1 S.2.1 d_M_record_90 (by decide) (fun c_48 => ?_) (fun c_48 => ?_)
                          · exact absurd c_48 (nI_pos (by omega))
                          · refine lv_aload_n S.1 S.2.1 d_M_record_93 rfl (lv_at hl 4 rfl) ?_
                            refine lv_iload S.1 S.2.1 d_M_record_94 (lv_at hl 3 rfl) ?_
                            refine lv_iload S.1 S.2.1 d_M_record_96 (lv_at hl 0 rfl) ?_
                            refine uVi (n := 2) (b := 0) (As := [.int (nI p0), .int (nI i)]) (rest := [.int (mKm (up2 w 0 0 0) p0 i)]) S hK hN hP hS (c_M_moveOf hJ (up2 w 0 0 0) p0 i (by omega) (by omega)) ⟨hU, t4_39, t4_36, t1_8, by decide +kernel, by decide, by decide⟩ t4_38 tp_17 (by decide) mg_obj rfl rfl rfl hl.1 rfl (Nat.le_of_ble_eq_true rfl) d_M_record_98 ⟨Nat.le_of_ble_eq_true rfl, Nat.le_of_ble_eq_true rfl⟩ (fun r u H locs hp hP hS => ?_)
                            obtain ⟨hu, rfl⟩ := hp
                            rw [hu] at hP
                            refine lv_iconst (v := (-1)) S.1 S.2.1 d_M_record_101 (by decide) ?_
                            refine lv_icmp_ne (tgt := 109) S.1 S.2.1 d_M_record_102 (by decide) (fun c_mo => ?_) (fun c_mo => ?_)
                            · refine lv_iconst (v := 0) S.1 S.2.1 d_M_record_109 (by decide) ?_
                              refine lv_iadd S.1 S.2.1 d_M_record_110 ?_
                              refine lv_topi (fun x_49 ex_49 => ?_)
                              refine lv_istore (lv' := [(6, .int x_49), (7, .int (nI i)), (5, .int (-1)), (4, .int (nI p0)), (0, .ref (ad 0)), (1, .int a), (2, .int b), (3, .int x)]) S.1 S.2.1 d_M_record_111 hl (by decide) rfl (fun ls hl => ?_)
                              refine lv_iinc (v := nI (i + 1)) (lv' := [(7, .int (nI (i + 1))), (6, .int x_49), (5, .int (-1)), (4, .int (nI p0)), (0, .ref (ad 0)), (1, .int a), (2, .int b), (3, .int x)]) S.1 S.2.1 d_M_record_113 hl (k := 1) rfl (nI_1 i) (by decide) rfl (fun ls hl => ?_)
                              refine lv_goto (tgt := 68) S.1 S.2.1 d_M_record_116 (by decide) ?_
                              exact ih _ _ ls hP hS (by rw [show mKm (up2 w 0 0 0) p0 (i + 1) = x_49 from by rw [ex_49, mKm, if_neg (fun z => c_mo z.2)]]; exact lv_sub hl [0, 1, 2, 3, 4, 5, 6, 7] rfl)
                            · refine lv_iconst (v := 1) S.1 S.2.1 d_M_record_105 (by decide) ?_
                              refine lv_goto (tgt := 110) S.1 S.2.1 d_M_record_106 (by decide) ?_
                              refine lv_iadd S.1 S.2.1 d_M_record_110 ?_
                              refine lv_topi (fun x_50 ex_50 => ?_)
                              refine lv_istore (lv' := [(6, .int x_50), (7, .int (nI i)), (5, .int (-1)), (4, .int (nI p0)), (0, .ref (ad 0)), (1, .int a), (2, .int b), (3, .int x)]) S.1 S.2.1 d_M_record_111 hl (by decide) rfl (fun ls hl => ?_)
                              refine lv_iinc (v := nI (i + 1)) (lv' := [(7, .int (nI (i + 1))), (6, .int x_50), (5, .int (-1)), (4, .int (nI p0)), (0, .ref (ad 0)), (1, .int a), (2, .int b), (3, .int x)]) S.1 S.2.1 d_M_record_113 hl (k := 1) rfl (nI_1 i) (by decide) rfl (fun ls hl => ?_)
                              refine lv_goto (tgt := 68) S.1 S.2.1 d_M_record_116 (by decide) ?_
                              exact ih _ _ ls hP hS (by rw [show mKm (up2 w 0 0 0) p0 (i + 1) = x_50 from by rw [ex_50, mKm, if_pos ⟨c_v, c_mo⟩]]; exact lv_sub hl [0, 1, 2, 3, 4, 5, 6, 7] rfl)
                  exact L 0 (Nat.zero_le _) _ _ ls hP hS (lv_sub hl [0, 1, 2, 3, 4, 5, 6, 7] rfl)
                · have hN0 : mNx (up2 w 0 0 0) a b x F = some px := by rw [mNx, if_neg c_k, hX0]
                  have hpx := mAbv_lt _ _ hX0
                  refine lv_istore (lv' := [(5, .int (nI px)), (4, .int (nI p0)), (0, .ref (ad 0)), (1, .int a), (2, .int b), (3, .int x)]) S.1 S.2.1 d_M_record_60 hl (by decide) rfl (fun ls hl => ?_)
                  refine lv_iconst (v := 0) S.1 S.2.1 d_M_record_62 (by decide) ?_
                  refine lv_istore (lv' := [(6, .int 0), (5, .int (nI px)), (4, .int (nI p0)), (0, .ref (ad 0)), (1, .int a), (2, .int b), (3, .int x)]) S.1 S.2.1 d_M_record_63 hl (by decide) rfl (fun ls hl => ?_)
                  refine lv_iconst (v := 0) S.1 S.2.1 d_M_record_65 (by decide) ?_
                  refine lv_istore (lv' := [(7, .int 0), (6, .int 0), (5, .int (nI px)), (4, .int (nI p0)), (0, .ref (ad 0)), (1, .int a), (2, .int b), (3, .int x)]) S.1 S.2.1 d_M_record_66 hl (by decide) rfl (fun ls hl => ?_)
                  have L : ∀ i, i ≤ M → ∀ (H : Heap) (locs : List Loc) (ls : Array Slot), va_P D clsAll (uw 22 ad (mG ca ad (up2 w 0 0 0))) H → va_S (uA 22 ad s.heap.size) s.heap H locs → lv_has ls 8 [(7, .int (nI i)), (6, .int (mKm (up2 w 0 0 0) p0 i)), (5, .int (nI px)), (4, .int (nI p0)), (0, .ref (ad 0)), (1, .int a), (2, .int b), (3, .int x)] → uGi 4 94 D clsAll 22 ad (mG ca ad) (fun r u => mRcP w a b x F M r u) [.ref (ad 0), .int a, .int b, .int x] p l e s m below meth c H locs 68 ls [] := by
                    refine upTo M ?_ ?_
                    · intro H locs ls hP hS hl
                      refine lv_iload S.1 S.2.1 d_M_record_68 (lv_at hl 0 rfl) ?_
                      refine lv_bipush (v := 64) S.1 S.2.1 d_M_record_70 (by decide) ?_
                      refine lv_icmp_ge (tgt := 119) S.1 S.2.1 d_M_record_72 (by decide) (fun c_h1 => ?_) (fun c_h1 => ?_)
                      · refine lv_aload_n S.1 S.2.1 d_M_record_119 rfl (lv_at hl 4 rfl) ?_
                        refine lv_iload S.1 S.2.1 d_M_record_120 (lv_at hl 3 rfl) ?_
                        refine lv_if_ge (tgt := 134) S.1 S.2.1 d_M_record_122 (by decide) (fun c_51 => ?_) (fun c_51 => ?_)
                        · refine lv_aload_n S.1 S.2.1 d_M_record_134 rfl (lv_at hl 4 rfl) ?_
                          refine uVi (n := 0) (b := 0) (As := []) (rest := [.ref (ad 0)]) S hK hN hP hS (c_M_moveCount hJ (up2 w 0 0 0) M hM F hF) ⟨hU, t4_47, t4_44, t1_8, by decide +kernel, by decide, by decide⟩ t4_46 tp_19 (by decide) mg_obj rfl rfl rfl hl.1 rfl (Nat.le_of_ble_eq_true rfl) d_M_record_135 ⟨Nat.le_of_ble_eq_true rfl, Nat.le_of_ble_eq_true rfl⟩ (fun r u H locs hp hP hS => ?_)
                          obtain ⟨hu, rfl⟩ := hp
                          rw [hu] at hP
                          refine lv_iload S.1 S.2.1 d_M_record_138 (lv_at hl 1 rfl) ?_
                          refine lv_iadd S.1 S.2.1 d_M_record_140 ?_
                          refine lv_aload_n S.1 S.2.1 d_M_record_141 rfl (lv_at hl 4 rfl) ?_
                          refine lv_iload S.1 S.2.1 d_M_record_142 (lv_at hl 2 rfl) ?_
                          refine uVi (n := 1) (b := 0) (As := [.int (nI px)]) (rest := [.int ((mMc (up2 w 0 0 0) M F) + (mKm (up2 w 0 0 0) p0 M)), .ref (ad 0)]) S hK hN hP hS (c_M_keptMovesO hJ (up2 w 0 0 0) M hM F hF (some px) (fun q h => by cases h; omega)) ⟨hU, t4_55, t4_52, t1_8, by decide +kernel, by decide, by decide⟩ t4_54 tp_21 (by decide) mg_obj rfl rfl rfl hl.1 rfl (Nat.le_of_ble_eq_true rfl) d_M_record_144 ⟨Nat.le_of_ble_eq_true rfl, Nat.le_of_ble_eq_true rfl⟩ (fun r u H locs hp hP hS => ?_)
                          obtain ⟨hu, rfl⟩ := hp
                          rw [hu] at hP
                          refine lv_iadd S.1 S.2.1 d_M_record_147 ?_
                          refine lv_sipush (v := 600) S.1 S.2.1 d_M_record_148 (by decide) ?_
                          refine lv_icmp_le (tgt := 158) S.1 S.2.1 d_M_record_151 (by decide) (fun c_600 => ?_) (fun c_600 => ?_)
                          · refine lv_iconst (v := 0) S.1 S.2.1 d_M_record_158 (by decide) ?_
                            refine ur_put (k := 0) (v := .int 0) (g' := mG ca ad (up2 (up2 w 0 0 0) 0 0 0)) S hK hP (uD _ hJ) hS (by decide) mg_obj rfl (fun w h => hU w (in_M w h)) ty_M tyk_M nm_M 0 (by decide) (hU _ t3_160) rfl rfl rfl (Nat.le_of_ble_eq_true rfl) ms_thr d_M_record_159 (fun H locs hP hS => ?_)
                            refine lv_aload_n S.1 S.2.1 d_M_record_162 rfl (lv_at hl 4 rfl) ?_
                            refine ur_get (k := 0) (v := .int ((up2 (up2 w 0 0 0) 0 0 0) 0 0)) S hK hP (by decide) mg_obj rfl (fun w h => hU w (in_M w h)) 0 (by decide) (hU _ t3_160) rfl d_M_record_163 ?_
                            rw [up2_s]
                            refine lv_if_le (tgt := 171) S.1 S.2.1 d_M_record_166 (by decide) (fun c_52 => ?_) (fun c_52 => ?_)
                            · refine lv_aload_n S.1 S.2.1 d_M_record_171 rfl (lv_at hl 4 rfl) ?_
                              refine lv_iload S.1 S.2.1 d_M_record_172 (lv_at hl 2 rfl) ?_
                              refine uVv (n := 1) (b := 0) (As := [.int (nI px)]) (rest := []) S hK hN hP hS (c_M_noteO hJ (up2 (up2 w 0 0 0) 0 0 0) M hM F hF (some px) (fun q h => by cases h; omega)) ⟨hU, t4_59, t4_56, t1_8, by decide +kernel, by decide, by decide⟩ t4_58 tp_22 (by decide) mg_obj rfl rfl rfl hl.1 rfl (Nat.le_of_ble_eq_true rfl) d_M_record_174 ⟨Nat.le_of_ble_eq_true rfl, Nat.le_of_ble_eq_true rfl⟩ (fun u H locs hp hP hS => ?_)
                              rw [hp] at hP
                              refine lv_iload S.1 S.2.1 d_M_record_177 (lv_at hl 3 rfl) ?_
                              refine lv_if_ge (tgt := 191) S.1 S.2.1 d_M_record_179 (by decide) (fun c_53 => ?_) (fun c_53 => ?_)
                              · refine lv_iload S.1 S.2.1 d_M_record_191 (lv_at hl 3 rfl) ?_
                                refine lv_istore (lv' := [(4, .int (nI p0)), (7, .int (nI M)), (6, .int (mKm (up2 w 0 0 0) p0 M)), (5, .int (nI px)), (0, .ref (ad 0)), (1, .int a), (2, .int b), (3, .int x)]) S.1 S.2.1 d_M_record_193 hl (by decide) rfl (fun ls hl => ?_)
                                refine lv_iconst (v := 0) S.1 S.2.1 d_M_record_195 (by decide) ?_
                                refine lv_istore (lv' := [(7, .int 0), (4, .int (nI p0)), (6, .int (mKm (up2 w 0 0 0) p0 M)), (5, .int (nI px)), (0, .ref (ad 0)), (1, .int a), (2, .int b), (3, .int x)]) S.1 S.2.1 d_M_record_196 hl (by decide) rfl (fun ls hl => ?_)
                                have L2 : ∀ i, i ≤ M → ∀ (H : Heap) (locs : List Loc) (ls : Array Slot), va_P D clsAll (uw 22 ad (mG ca ad (mRp (mNo (up2 (up2 w 0 0 0) 0 0 0) F M (some px)) p0 (some px) i))) H → va_S (uA 22 ad s.heap.size) s.heap H locs → lv_has ls 8 [(7, .int (nI i)), (5, .int (nI px)), (4, .int (nI p0)), (0, .ref (ad 0)), (1, .int a), (2, .int b), (3, .int x)] → uGi 4 94 D clsAll 22 ad (mG ca ad) (fun r u => mRcP w a b x F M r u) [.ref (ad 0), .int a, .int b, .int x] p l e s m below meth c H locs 198 ls [] := by
                                  refine upTo M ?_ ?_
                                  · intro H locs ls hP hS hl
                                    refine lv_iload S.1 S.2.1 d_M_record_198 (lv_at hl 0 rfl) ?_
                                    refine lv_bipush (v := 64) S.1 S.2.1 d_M_record_200 (by decide) ?_
                                    refine lv_icmp_ge (tgt := 250) S.1 S.2.1 d_M_record_202 (by decide) (fun c_h2 => ?_) (fun c_h2 => ?_)
                                    · refine lv_aload_n S.1 S.2.1 d_M_record_250 rfl (lv_at hl 3 rfl) ?_
                                      refine lv_iload S.1 S.2.1 d_M_record_251 (lv_at hl 2 rfl) ?_
                                      refine uVi (n := 1) (b := 0) (As := [.int (nI p0)]) (rest := []) S hK hN hP hS (c_M_movesOf hJ (mRp (mNo (up2 (up2 w 0 0 0) 0 0 0) F M (some px)) p0 (some px) M) M hM p0 (by omega)) ⟨hU, t4_51, t4_48, t1_8, by decide +kernel, by decide, by decide⟩ t4_50 tp_20 (by decide) mg_obj rfl rfl rfl hl.1 rfl (Nat.le_of_ble_eq_true rfl) d_M_record_253 ⟨Nat.le_of_ble_eq_true rfl, Nat.le_of_ble_eq_true rfl⟩ (fun r u H locs hp hP hS => ?_)
                                      obtain ⟨hu, rfl⟩ := hp
                                      rw [hu] at hP
                                      exact uIret S hr hlk (mRp (mNo (up2 (up2 w 0 0 0) 0 0 0) F M (some px)) p0 (some px) M) hP hS (by unfold mRcP; rw [if_pos ⟨c_a0, c_a4, c_b0, c_b9⟩]; rw [if_neg (fun z => z.elim (fun y => by rw [hF0] at y; exact nomatch y.1) (fun y => y (by rw [hF0, hN0]; exact c_600))), hF0, hN0]; exact ⟨rfl, rfl⟩) d_M_record_256
                                    · exact absurd (by subst hM; exact nI_le (Nat.le_refl 64) (by decide)) c_h2
                                  · intro i hi ih H locs ls hP hS hl
                                    refine lv_iload S.1 S.2.1 d_M_record_198 (lv_at hl 0 rfl) ?_
                                    refine lv_bipush (v := 64) S.1 S.2.1 d_M_record_200 (by decide) ?_
                                    refine lv_icmp_ge (tgt := 250) S.1 S.2.1 d_M_record_202 (by decide) (fun c_h2 => ?_) (fun c_h2 => ?_)
                                    · exact absurd c_h2 (nI_ge (b := 64) (by omega) (by decide))
                                    · refine lv_aload_n S.1 S.2.1 d_M_record_205 rfl (lv_at hl 3 rfl) ?_
                                      refine ur_get (k := 0) (v := .ref (ad 2)) S hK hP (by decide) mg_obj rfl (fun w h => hU w (in_M w h)) 2 (by decide) (hU _ t3_162) rfl d_M_record_206 ?_
                                      refine lv_iload S.1 S.2.1 d_M_record_209 (lv_at hl 0 rfl) ?_
                                      refine ur_sald (k := 2) (n := 64) (f := ((mRp (mNo (up2 (up2 w 0 0 0) 0 0 0) F M (some px)) p0 (some px) i) 2)) (j := i) S hK hP (by decide) 4 (mg_arr 2 (by decide)) rfl rfl (by omega) (by decide) d_M_record_211 ?_
                                      refine lv_iconst (v := (-1)) S.1 S.2.1 d_M_record_212 (by decide) ?_
                                      refine lv_icmp_eq (tgt := 244) S.1 S.2.1 d_M_record_213 (by decide) (fun c_b => ?_) (fun c_b => ?_)
                                      · refine lv_iinc (v := nI (i + 1)) (lv' := [(7, .int (nI (i + 1))), (5, .int (nI px)), (4, .int (nI p0)), (0, .ref (ad 0)), (1, .int a), (2, .int b), (3, .int x)]) S.1 S.2.1 d_M_record_244 hl (k := 0) rfl (nI_1 i) (by decide) rfl (fun ls hl => ?_)
                                        refine lv_goto (tgt := 198) S.1 S.2.1 d_M_record_247 (by decide) ?_
                                        exact ih _ _ ls (by rw [mRp, if_pos c_b]; exact hP) hS (lv_sub hl [0, 1, 2, 3, 4, 5, 6] rfl)
                                      · refine lv_aload_n S.1 S.2.1 d_M_record_216 rfl (lv_at hl 3 rfl) ?_
                                        refine lv_iload S.1 S.2.1 d_M_record_217 (lv_at hl 2 rfl) ?_
                                        refine lv_iload S.1 S.2.1 d_M_record_219 (lv_at hl 0 rfl) ?_
                                        refine lv_aload_n S.1 S.2.1 d_M_record_221 rfl (lv_at hl 3 rfl) ?_
                                        refine ur_get (k := 0) (v := .ref (ad 2)) S hK hP (by decide) mg_obj rfl (fun w h => hU w (in_M w h)) 2 (by decide) (hU _ t3_162) rfl d_M_record_222 ?_
                                        refine lv_iload S.1 S.2.1 d_M_record_225 (lv_at hl 0 rfl) ?_
                                        refine ur_sald (k := 2) (n := 64) (f := ((mRp (mNo (up2 (up2 w 0 0 0) 0 0 0) F M (some px)) p0 (some px) i) 2)) (j := i) S hK hP (by decide) 4 (mg_arr 2 (by decide)) rfl rfl (by omega) (by decide) d_M_record_227 ?_
                                        refine uVv (n := 3) (b := 0) (As := [.int (nI p0), .int (nI i), .int (((mRp (mNo (up2 (up2 w 0 0 0) 0 0 0) F M (some px)) p0 (some px) i) 2) i)]) (rest := []) S hK hN hP hS (c_M_put hJ (mRp (mNo (up2 (up2 w 0 0 0) 0 0 0) F M (some px)) p0 (some px) i) p0 i (by omega) (by omega) (((mRp (mNo (up2 (up2 w 0 0 0) 0 0 0) F M (some px)) p0 (some px) i) 2) i)) ⟨hU, t4_79, t4_76, t1_8, by decide +kernel, by decide, by decide⟩ t4_78 tp_27 (by decide) mg_obj rfl rfl rfl hl.1 rfl (Nat.le_of_ble_eq_true rfl) d_M_record_228 ⟨Nat.le_of_ble_eq_true rfl, Nat.le_of_ble_eq_true rfl⟩ (fun u H locs hp hP hS => ?_)
                                        rw [hp] at hP
                                        refine lv_iload S.1 S.2.1 d_M_record_231 (lv_at hl 1 rfl) ?_
                                        refine lv_if_lt (tgt := 244) S.1 S.2.1 d_M_record_233 (by decide) (fun c_54 => ?_) (fun c_54 => ?_)
                                        · exact absurd c_54 (nI_pos (by omega))
                                        · refine lv_aload_n S.1 S.2.1 d_M_record_236 rfl (lv_at hl 3 rfl) ?_
                                          refine lv_iload S.1 S.2.1 d_M_record_237 (lv_at hl 1 rfl) ?_
                                          refine lv_iload S.1 S.2.1 d_M_record_239 (lv_at hl 0 rfl) ?_
                                          refine uVv (n := 2) (b := 0) (As := [.int (nI px), .int (nI i)]) (rest := []) S hK hN hP hS (c_M_keep hJ (up2 (mRp (mNo (up2 (up2 w 0 0 0) 0 0 0) F M (some px)) p0 (some px) i) 10 (64 * p0 + i) (s16 (((mRp (mNo (up2 (up2 w 0 0 0) 0 0 0) F M (some px)) p0 (some px) i) 2) i))) px i (by omega) (by omega)) ⟨hU, t4_83, t4_80, t1_8, by decide +kernel, by decide, by decide⟩ t4_82 tp_28 (by decide) mg_obj rfl rfl rfl hl.1 rfl (Nat.le_of_ble_eq_true rfl) d_M_record_241 ⟨Nat.le_of_ble_eq_true rfl, Nat.le_of_ble_eq_true rfl⟩ (fun u H locs hp hP hS => ?_)
                                          rw [hp] at hP
                                          refine lv_iinc (v := nI (i + 1)) (lv' := [(7, .int (nI (i + 1))), (5, .int (nI px)), (4, .int (nI p0)), (0, .ref (ad 0)), (1, .int a), (2, .int b), (3, .int x)]) S.1 S.2.1 d_M_record_244 hl (k := 0) rfl (nI_1 i) (by decide) rfl (fun ls hl => ?_)
                                          refine lv_goto (tgt := 198) S.1 S.2.1 d_M_record_247 (by decide) ?_
                                          exact ih _ _ ls (by rw [mRp, if_neg c_b]; exact hP) hS (lv_sub hl [0, 1, 2, 3, 4, 5, 6] rfl)
                                exact L2 0 (Nat.zero_le _) _ _ ls hP hS (lv_sub hl [0, 3, 1, 4, 5, 6, 7] rfl)
                              · exact absurd (nI_pos' (by omega)) c_53
                            · exact absurd (by decide) c_52
                          · refine lv_iconst (v := 2) S.1 S.2.1 d_M_record_154 (by decide) ?_
                            refine lv_goto (tgt := 159) S.1 S.2.1 d_M_record_155 (by decide) ?_
                            refine ur_put (k := 0) (v := .int 2) (g' := mG ca ad (up2 (up2 w 0 0 0) 0 0 2)) S hK hP (uD _ hJ) hS (by decide) mg_obj rfl (fun w h => hU w (in_M w h)) ty_M tyk_M nm_M 0 (by decide) (hU _ t3_160) rfl rfl rfl (Nat.le_of_ble_eq_true rfl) ms_thr d_M_record_159 (fun H locs hP hS => ?_)
                            refine lv_aload_n S.1 S.2.1 d_M_record_162 rfl (lv_at hl 4 rfl) ?_
                            refine ur_get (k := 0) (v := .int ((up2 (up2 w 0 0 0) 0 0 2) 0 0)) S hK hP (by decide) mg_obj rfl (fun w h => hU w (in_M w h)) 0 (by decide) (hU _ t3_160) rfl d_M_record_163 ?_
                            rw [up2_s]
                            refine lv_if_le (tgt := 171) S.1 S.2.1 d_M_record_166 (by decide) (fun c_55 => ?_) (fun c_55 => ?_)
                            · exact absurd c_55 (by decide)
                            · refine lv_iconst (v := 0) S.1 S.2.1 d_M_record_169 (by decide) ?_
                              exact uIret S hr hlk (up2 (up2 w 0 0 0) 0 0 2) hP hS (by unfold mRcP; rw [if_pos ⟨c_a0, c_a4, c_b0, c_b9⟩]; rw [if_pos (Or.inr (by rw [hF0, hN0]; exact c_600))]; exact ⟨rfl, rfl⟩) d_M_record_170
                        · exact absurd (nI_pos' (by omega)) c_51
                      · exact absurd (by subst hM; exact nI_le (Nat.le_refl 64) (by decide)) c_h1
                    · intro i hi ih H locs ls hP hS hl
                      refine lv_iload S.1 S.2.1 d_M_record_68 (lv_at hl 0 rfl) ?_
                      refine lv_bipush (v := 64) S.1 S.2.1 d_M_record_70 (by decide) ?_
                      refine lv_icmp_ge (tgt := 119) S.1 S.2.1 d_M_record_72 (by decide) (fun c_h1 => ?_) (fun c_h1 => ?_)
                      · exact absurd c_h1 (nI_ge (b := 64) (by omega) (by decide))
                      · refine lv_iload S.1 S.2.1 d_M_record_75 (lv_at hl 1 rfl) ?_
                        refine lv_aload_n S.1 S.2.1 d_M_record_77 rfl (lv_at hl 4 rfl) ?_
                        refine ur_get (k := 0) (v := .ref (ad 2)) S hK hP (by decide) mg_obj rfl (fun w h => hU w (in_M w h)) 2 (by decide) (hU _ t3_162) rfl d_M_record_78 ?_
                        refine lv_iload S.1 S.2.1 d_M_record_81 (lv_at hl 0 rfl) ?_
                        refine ur_sald (k := 2) (n := 64) (f := ((up2 w 0 0 0) 2)) (j := i) S hK hP (by decide) 4 (mg_arr 2 (by decide)) rfl rfl (by omega) (by decide) d_M_record_83 ?_
                        refine lv_iconst (v := (-1)) S.1 S.2.1 d_M_record_84 (by decide) ?_
                        refine lv_icmp_eq (tgt := 109) S.1 S.2.1 d_M_record_85 (by decide) (fun c_v => ?_) (fun c_v => ?_)
                        · refine lv_iconst (v := 0) S.1 S.2.1 d_M_record_109 (by decide) ?_
                          refine lv_iadd S.1 S.2.1 d_M_record_110 ?_
                          refine lv_topi (fun x_56 ex_56 => ?_)
                          refine lv_istore (lv' := [(6, .int x_56), (7, .int (nI i)), (5, .int (nI px)), (4, .int (nI p0)), (0, .ref (ad 0)), (1, .int a), (2, .int b), (3, .int x)]) S.1 S.2.1 d_M_record_111 hl (by decide) rfl (fun ls hl => ?_)
                          refine lv_iinc (v := nI (i + 1)) (lv' := [(7, .int (nI (i + 1))), (6, .int x_56), (5, .int (nI px)), (4, .int (nI p0)), (0, .ref (ad 0)), (1, .int a), (2, .int b), (3, .int x)]) S.1 S.2.1 d_M_record_113 hl (k := 1) rfl (nI_1 i) (by decide) rfl (fun ls hl => ?_)
                          refine lv_goto (tgt := 68) S.1 S.2.1 d_M_record_116 (by decide) ?_
                          exact ih _ _ ls hP hS (by rw [show mKm (up2 w 0 0 0) p0 (i + 1) = x_56 from by rw [ex_56, mKm, if_neg (fun z => z.1 c_v)]]; exact lv_sub hl [0, 1, 2, 3, 4, 5, 6, 7] rfl)
                        · refine lv_iload S.1 S.2.1 d_M_record_88 (lv_at hl 3 rfl) ?_
                          refine lv_if_lt (tgt := 105) S.1 S.2.1 d_M_record_90 (by decide) (fun c_57 => ?_) (fun c_57 => ?_)
                          · exact absurd c_57 (nI_pos (by omega))
                          · refine lv_aload_n S.1 S.2.1 d_M_record_93 rfl (lv_at hl 4 rfl) ?_
                            refine lv_iload S.1 S.2.1 d_M_record_94 (lv_at hl 3 rfl) ?_
                            refine lv_iload S.1 S.2.1 d_M_record_96 (lv_at hl 0 rfl) ?_
                            refine uVi (n := 2) (b := 0) (As := [.int (nI p0), .int (nI i)]) (rest := [.int (mKm (up2 w 0 0 0) p0 i)]) S hK hN hP hS (c_M_moveOf hJ (up2 w 0 0 0) p0 i (by omega) (by omega)) ⟨hU, t4_39, t4_36, t1_8, by decide +kernel, by decide, by decide⟩ t4_38 tp_17 (by decide) mg_obj rfl rfl rfl hl.1 rfl (Nat.le_of_ble_eq_true rfl) d_M_record_98 ⟨Nat.le_of_ble_eq_true rfl, Nat.le_of_ble_eq_true rfl⟩ (fun r u H locs hp hP hS => ?_)
                            obtain ⟨hu, rfl⟩ := hp
                            rw [hu] at hP
                            refine lv_iconst (v := (-1)) S.1 S.2.1 d_M_record_101 (by decide) ?_
                            refine lv_icmp_ne (tgt := 109) S.1 S.2.1 d_M_record_102 (by decide) (fun c_mo => ?_) (fun c_mo => ?_)
                            · refine lv_iconst (v := 0) S.1 S.2.1 d_M_record_109 (by decide) ?_
                              refine lv_iadd S.1 S.2.1 d_M_record_110 ?_
                              refine lv_topi (fun x_58 ex_58 => ?_)
                              refine lv_istore (lv' := [(6, .int x_58), (7, .int (nI i)), (5, .int (nI px)), (4, .int (nI p0)), (0, .ref (ad 0)), (1, .int a), (2, .int b), (3, .int x)]) S.1 S.2.1 d_M_record_111 hl (by decide) rfl (fun ls hl => ?_)
                              refine lv_iinc (v := nI (i + 1)) (lv' := [(7, .int (nI (i + 1))), (6, .int x_58), (5, .int (nI px)), (4, .int (nI p0)), (0, .ref (ad 0)), (1, .int a), (2, .int b), (3, .int x)]) S.1 S.2.1 d_M_record_113 hl (k := 1) rfl (nI_1 i) (by decide) rfl (fun ls hl => ?_)
                              refine lv_goto (tgt := 68) S.1 S.2.1 d_M_record_116 (by decide) ?_
                              exact ih _ _ ls hP hS (by rw [show mKm (up2 w 0 0 0) p0 (i + 1) = x_58 from by rw [ex_58, mKm, if_neg (fun z => c_mo z.2)]]; exact lv_sub hl [0, 1, 2, 3, 4, 5, 6, 7] rfl)
                            · refine lv_iconst (v := 1) S.1 S.2.1 d_M_record_105 (by decide) ?_
                              refine lv_goto (tgt := 110) S.1 S.2.1 d_M_record_106 (by decide) ?_
                              refine lv_iadd S.1 S.2.1 d_M_record_110 ?_
                              refine lv_topi (fun x_59 ex_59 => ?_)
                              refine lv_istore (lv' := [(6, .int x_59), (7, .int (nI i)), (5, .int (nI px)), (4, .int (nI p0)), (0, .ref (ad 0)), (1, .int a), (2, .int b), (3, .int x)]) S.1 S.2.1 d_M_record_111 hl (by decide) rfl (fun ls hl => ?_)
                              refine lv_iinc (v := nI (i + 1)) (lv' := [(7, .int (nI (i + 1))), (6, .int x_59), (5, .int (nI px)), (4, .int (nI p0)), (0, .ref (ad 0)), (1, .int a), (2, .int b), (3, .int x)]) S.1 S.2.1 d_M_record_113 hl (k := 1) rfl (nI_1 i) (by decide) rfl (fun ls hl => ?_)
                              refine lv_goto (tgt := 68) S.1 S.2.1 d_M_record_116 (by decide) ?_
                              exact ih _ _ ls hP hS (by rw [show mKm (up2 w 0 0 0) p0 (i + 1) = x_59 from by rw [ex_59, mKm, if_pos ⟨c_v, c_mo⟩]]; exact lv_sub hl [0, 1, 2, 3, 4, 5, 6, 7] rfl)
                  exact L 0 (Nat.zero_le _) _ _ ls hP hS (lv_sub hl [0, 1, 2, 3, 4, 5, 6, 7] rfl)
          · exact absurd (by decide) c_5
