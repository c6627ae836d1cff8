/-! The model: go, out, playback, count, cue (printed by wip/gen/gen_m6.py) -/
set_option maxRecDepth 100000 in
set_option maxHeartbeats 4000000 in
theorem c_M_go {l : Launch} {D : va_G} {ca : Nat → ClassId} {ad : Nat → Nat} (hJ : uJ 22 ad) (w : Nat → Nat → Int32) (M : Nat) (hM : M = 64) (F : Nat) (hF : F = 40) (Q6 : Nat) (h6 : Q6 = 6) (K : Nat) (x1 x2 t : Int32) (hT : isPb x1 ∧ mTick w t → mTok t F M Q6 K (up2 w 0 0 0)) (hv : mV (mNow (up2 w 0 0 0) t F M Q6 K)) (ho : mO (mNow (up2 w 0 0 0) t F M Q6 K) t) : uMi l y_M_go b_M_go 5 (some .int) 6 148 D clsAll (tysAll ca) 22 ad (mG ca ad) w [.ref (ad 0), .int x1, .int x2, .int t] (fun r u => mGoP w x1 x2 t F M Q6 K r u) := by
  refine uStart (by decide) (Nat.le_of_ble_eq_true rfl) ?_
  intro p e s m below meth c ls S hr hlk hK hN hP hl
  have hU : ∀ w ∈ uWS, w ∈ (Cond.code y_M_go b_M_go 5 (some .int) :: uWS) := fun w h => List.mem_cons_of_mem _ h
  have hS : va_S (uA 22 ad s.heap.size) s.heap s.heap [] := va_S.rf
  have hl : lv_has ls 5 [(0, .ref (ad 0)), (1, .int x1), (2, .int x2), (3, .int t)] := hl
  refine lv_aload_n S.1 S.2.1 d_M_go_0 rfl (lv_at hl 0 rfl) ?_
  refine lv_iload_n S.1 S.2.1 d_M_go_1 rfl (lv_at hl 1 rfl) ?_
  refine uSi (n := 1) (As := [.int x1]) (rest := [.ref (ad 0)]) S hK hN hP hS (c_M_isPlayback hJ w x1) ⟨hU, t4_137, t4_135, t1_8, by decide +kernel, by decide, by decide⟩ t4_136 rfl hl.1 rfl (Nat.le_of_ble_eq_true rfl) d_M_go_2 ⟨Nat.le_of_ble_eq_true rfl, Nat.le_of_ble_eq_true rfl⟩ (fun r u H locs hp hP hS => ?_)
  obtain ⟨hu, rfl⟩ := hp
  rw [hu] at hP
  refine lv_if_eq (tgt := 20) S.1 S.2.1 d_M_go_5 (by decide) (fun c_a => ?_) (fun c_a => ?_)
  · have c_a := pI_no c_a
    refine lv_iconst (v := 1) S.1 S.2.1 d_M_go_20 (by decide) ?_
    refine ur_put (k := 0) (v := .int 1) (g' := mG ca ad (up2 w 0 0 1)) S hK hP (uD _ hJ) hS (by decide) mg_obj rfl (fun w h => hU w (in_M w h)) ty_M tyk_M nm_M 0 (by decide) (hU _ t3_160) rfl rfl rfl (Nat.le_of_ble_eq_true rfl) ms_thr d_M_go_21 (fun H locs hP hS => ?_)
    refine lv_aload_n S.1 S.2.1 d_M_go_24 rfl (lv_at hl 0 rfl) ?_
    refine ur_get (k := 0) (v := .int ((up2 w 0 0 1) 0 0)) S hK hP (by decide) mg_obj rfl (fun w h => hU w (in_M w h)) 0 (by decide) (hU _ t3_160) rfl d_M_go_25 ?_
    rw [up2_s]
    refine lv_if_le (tgt := 33) S.1 S.2.1 d_M_go_28 (by decide) (fun c_1 => ?_) (fun c_1 => ?_)
    · exact absurd c_1 (by decide)
    · refine lv_iconst (v := 0) S.1 S.2.1 d_M_go_31 (by decide) ?_
      exact uIret S hr hlk (up2 w 0 0 1) hP hS (by unfold mGoP; rw [if_neg (fun z => c_a z.1)]; exact ⟨rfl, rfl⟩) d_M_go_32
  · have c_a := pI_yes c_a
    refine lv_aload_n S.1 S.2.1 d_M_go_8 rfl (lv_at hl 0 rfl) ?_
    refine lv_iload_n S.1 S.2.1 d_M_go_9 rfl (lv_at hl 3 rfl) ?_
    refine uVi (n := 1) (b := 0) (As := [.int t]) (rest := [.ref (ad 0)]) S hK hN hP hS (c_M_isTick hJ w t) ⟨hU, t4_145, t4_142, t1_8, by decide +kernel, by decide, by decide⟩ t4_144 tp_32 (by decide) mg_obj rfl rfl rfl hl.1 rfl (Nat.le_of_ble_eq_true rfl) d_M_go_10 ⟨Nat.le_of_ble_eq_true rfl, Nat.le_of_ble_eq_true rfl⟩ (fun r u H locs hp hP hS => ?_)
    obtain ⟨hu, rfl⟩ := hp
    rw [hu] at hP
    refine lv_if_eq (tgt := 20) S.1 S.2.1 d_M_go_13 (by decide) (fun c_b => ?_) (fun c_b => ?_)
    · have c_b := pI_no c_b
      refine lv_iconst (v := 1) S.1 S.2.1 d_M_go_20 (by decide) ?_
      refine ur_put (k := 0) (v := .int 1) (g' := mG ca ad (up2 w 0 0 1)) S hK hP (uD _ hJ) hS (by decide) mg_obj rfl (fun w h => hU w (in_M w h)) ty_M tyk_M nm_M 0 (by decide) (hU _ t3_160) rfl rfl rfl (Nat.le_of_ble_eq_true rfl) ms_thr d_M_go_21 (fun H locs hP hS => ?_)
      refine lv_aload_n S.1 S.2.1 d_M_go_24 rfl (lv_at hl 0 rfl) ?_
      refine ur_get (k := 0) (v := .int ((up2 w 0 0 1) 0 0)) S hK hP (by decide) mg_obj rfl (fun w h => hU w (in_M w h)) 0 (by decide) (hU _ t3_160) rfl d_M_go_25 ?_
      rw [up2_s]
      refine lv_if_le (tgt := 33) S.1 S.2.1 d_M_go_28 (by decide) (fun c_2 => ?_) (fun c_2 => ?_)
      · exact absurd c_2 (by decide)
      · refine lv_iconst (v := 0) S.1 S.2.1 d_M_go_31 (by decide) ?_
        exact uIret S hr hlk (up2 w 0 0 1) hP hS (by unfold mGoP; rw [if_neg (fun z => c_b z.2)]; exact ⟨rfl, rfl⟩) d_M_go_32
    · have c_b := pI_yes c_b
      obtain ⟨j, hj, ej⟩ := isPb_nat c_a
      subst ej
      refine lv_iconst (v := 0) S.1 S.2.1 d_M_go_16 (by decide) ?_
      refine lv_goto (tgt := 21) S.1 S.2.1 d_M_go_17 (by decide) ?_
      refine ur_put (k := 0) (v := .int 0) (g' := mG ca ad (up2 w 0 0 0)) S hK hP (uD _ hJ) hS (by decide) mg_obj rfl (fun w h => hU w (in_M w h)) ty_M tyk_M nm_M 0 (by decide) (hU _ t3_160) rfl rfl rfl (Nat.le_of_ble_eq_true rfl) ms_thr d_M_go_21 (fun H locs hP hS => ?_)
      refine lv_aload_n S.1 S.2.1 d_M_go_24 rfl (lv_at hl 0 rfl) ?_
      refine ur_get (k := 0) (v := .int ((up2 w 0 0 0) 0 0)) S hK hP (by decide) mg_obj rfl (fun w h => hU w (in_M w h)) 0 (by decide) (hU _ t3_160) rfl d_M_go_25 ?_
      rw [up2_s]
      refine lv_if_le (tgt := 33) S.1 S.2.1 d_M_go_28 (by decide) (fun c_3 => ?_) (fun c_3 => ?_)
      · refine lv_aload_n S.1 S.2.1 d_M_go_33 rfl (lv_at hl 0 rfl) ?_
        refine lv_iload_n S.1 S.2.1 d_M_go_34 rfl (lv_at hl 3 rfl) ?_
        refine uVv (n := 1) (b := 0) (As := [.int t]) (rest := []) S hK hN hP hS (c_M_tell hJ (up2 w 0 0 0) M hM F hF Q6 h6 K t (hT ⟨c_a, c_b⟩)) ⟨hU, t4_150, t4_147, t1_8, by decide +kernel, by decide, by decide⟩ t4_149 tp_33 (by decide) mg_obj rfl rfl rfl hl.1 rfl (Nat.le_of_ble_eq_true rfl) d_M_go_35 ⟨Nat.le_of_ble_eq_true rfl, Nat.le_of_ble_eq_true rfl⟩ (fun u H locs hp hP hS => ?_)
        rw [hp] at hP
        refine lv_aload_n S.1 S.2.1 d_M_go_38 rfl (lv_at hl 0 rfl) ?_
        refine ur_get (k := 0) (v := .ref (ad 12)) S hK hP (by decide) mg_obj rfl (fun w h => hU w (in_M w h)) 12 (by decide) (hU _ t3_172) rfl d_M_go_39 ?_
        refine lv_iload_n S.1 S.2.1 d_M_go_42 rfl (lv_at hl 1 rfl) ?_
        refine ur_iald (k := 12) (n := 6) (f := ((mNow (up2 w 0 0 0) t F M Q6 K) 12)) (j := j) S hK hP (by decide) 0 (mg_arr 12 (by decide)) rfl rfl hj (by decide) d_M_go_43 ?_
        refine lv_iconst (v := (-1)) S.1 S.2.1 d_M_go_44 (by decide) ?_
        refine lv_icmp_ne (tgt := 52) S.1 S.2.1 d_M_go_45 (by decide) (fun c_t => ?_) (fun c_t => ?_)
        · refine lv_iload_n S.1 S.2.1 d_M_go_52 rfl (lv_at hl 2 rfl) ?_
          refine lv_if_eq (tgt := 75) S.1 S.2.1 d_M_go_53 (by decide) (fun c_x => ?_) (fun c_x => ?_)
          · refine lv_aload_n S.1 S.2.1 d_M_go_75 rfl (lv_at hl 0 rfl) ?_
            refine lv_aload_n S.1 S.2.1 d_M_go_76 rfl (lv_at hl 0 rfl) ?_
            refine ur_get (k := 0) (v := .ref (ad 12)) S hK hP (by decide) mg_obj rfl (fun w h => hU w (in_M w h)) 12 (by decide) (hU _ t3_172) rfl d_M_go_77 ?_
            refine lv_iload_n S.1 S.2.1 d_M_go_80 rfl (lv_at hl 1 rfl) ?_
            refine ur_iald (k := 12) (n := 6) (f := ((mNow (up2 w 0 0 0) t F M Q6 K) 12)) (j := j) S hK hP (by decide) 0 (mg_arr 12 (by decide)) rfl rfl hj (by decide) d_M_go_81 ?_
            refine lv_aload_n S.1 S.2.1 d_M_go_82 rfl (lv_at hl 0 rfl) ?_
            refine ur_get (k := 0) (v := .ref (ad 14)) S hK hP (by decide) mg_obj rfl (fun w h => hU w (in_M w h)) 14 (by decide) (hU _ t3_174) rfl d_M_go_83 ?_
            refine lv_iload_n S.1 S.2.1 d_M_go_86 rfl (lv_at hl 1 rfl) ?_
            refine ur_iald (k := 14) (n := 6) (f := ((mNow (up2 w 0 0 0) t F M Q6 K) 14)) (j := j) S hK hP (by decide) 0 (mg_arr 14 (by decide)) rfl rfl hj (by decide) d_M_go_87 ?_
            refine uVi (n := 2) (b := 0) (As := [.int (((mNow (up2 w 0 0 0) t F M Q6 K) 12) j), .int (((mNow (up2 w 0 0 0) t F M Q6 K) 14) j)]) (rest := []) S hK hN hP hS (c_M_above hJ (mNow (up2 w 0 0 0) t F M Q6 K) F hF (((mNow (up2 w 0 0 0) t F M Q6 K) 12) j) (((mNow (up2 w 0 0 0) t F M Q6 K) 14) j)) ⟨hU, t4_35, t4_32, t1_8, by decide +kernel, by decide, by decide⟩ t4_34 tp_16 (by decide) mg_obj rfl rfl rfl hl.1 rfl (Nat.le_of_ble_eq_true rfl) d_M_go_88 ⟨Nat.le_of_ble_eq_true rfl, Nat.le_of_ble_eq_true rfl⟩ (fun r u H locs hp hP hS => ?_)
            obtain ⟨hu, rfl⟩ := hp
            rw [hu] at hP
            rcases hX_4 : mAbv (mNow (up2 w 0 0 0) t F M Q6 K) (((mNow (up2 w 0 0 0) t F M Q6 K) 12) j) (((mNow (up2 w 0 0 0) t F M Q6 K) 14) j) F with _ | p_5
            · refine lv_istore (lv' := [(4, .int (-1)), (0, .ref (ad 0)), (1, .int (nI j)), (2, .int x2), (3, .int t)]) S.1 S.2.1 d_M_go_91 hl (by decide) rfl (fun ls hl => ?_)
              refine lv_aload_n S.1 S.2.1 d_M_go_93 rfl (lv_at hl 1 rfl) ?_
              refine lv_iload S.1 S.2.1 d_M_go_94 (lv_at hl 0 rfl) ?_
              refine lv_if_ge (tgt := 103) S.1 S.2.1 d_M_go_96 (by decide) (fun c_6 => ?_) (fun c_6 => ?_)
              · exact absurd c_6 (by decide)
              · refine lv_iconst (v := 2) S.1 S.2.1 d_M_go_99 (by decide) ?_
                refine lv_goto (tgt := 104) S.1 S.2.1 d_M_go_100 (by decide) ?_
                refine ur_put (k := 0) (v := .int 2) (g' := mG ca ad (up2 (mNow (up2 w 0 0 0) t F M Q6 K) 0 0 2)) S hK hP (uD _ hJ) hS (by decide) mg_obj rfl (fun w h => hU w (in_M w h)) ty_M tyk_M nm_M 0 (by decide) (hU _ t3_160) rfl rfl rfl (Nat.le_of_ble_eq_true rfl) ms_thr d_M_go_104 (fun H locs hP hS => ?_)
                refine lv_aload_n S.1 S.2.1 d_M_go_107 rfl (lv_at hl 1 rfl) ?_
                refine ur_get (k := 0) (v := .int ((up2 (mNow (up2 w 0 0 0) t F M Q6 K) 0 0 2) 0 0)) S hK hP (by decide) mg_obj rfl (fun w h => hU w (in_M w h)) 0 (by decide) (hU _ t3_160) rfl d_M_go_108 ?_
                rw [up2_s]
                refine lv_if_le (tgt := 116) S.1 S.2.1 d_M_go_111 (by decide) (fun c_7 => ?_) (fun c_7 => ?_)
                · exact absurd c_7 (by decide)
                · refine lv_iconst (v := 0) S.1 S.2.1 d_M_go_114 (by decide) ?_
                  exact uIret S hr hlk (up2 (mNow (up2 w 0 0 0) t F M Q6 K) 0 0 2) hP hS (by unfold mGoP; rw [if_pos ⟨c_a, c_b⟩, nI_clamp (by omega), show mGoQ (mNow (up2 w 0 0 0) t F M Q6 K) j x2 F = none from by rw [mGoQ, if_neg c_t, if_pos c_x, hX_4]]; exact ⟨rfl, rfl⟩) d_M_go_115
            · have hp_5 := mAbv_lt _ _ hX_4
              refine lv_istore (lv' := [(4, .int (nI p_5)), (0, .ref (ad 0)), (1, .int (nI j)), (2, .int x2), (3, .int t)]) S.1 S.2.1 d_M_go_91 hl (by decide) rfl (fun ls hl => ?_)
              refine lv_aload_n S.1 S.2.1 d_M_go_93 rfl (lv_at hl 1 rfl) ?_
              refine lv_iload S.1 S.2.1 d_M_go_94 (lv_at hl 0 rfl) ?_
              refine lv_if_ge (tgt := 103) S.1 S.2.1 d_M_go_96 (by decide) (fun c_8 => ?_) (fun c_8 => ?_)
              · refine lv_iconst (v := 0) S.1 S.2.1 d_M_go_103 (by decide) ?_
                refine ur_put (k := 0) (v := .int 0) (g' := mG ca ad (up2 (mNow (up2 w 0 0 0) t F M Q6 K) 0 0 0)) S hK hP (uD _ hJ) hS (by decide) mg_obj rfl (fun w h => hU w (in_M w h)) ty_M tyk_M nm_M 0 (by decide) (hU _ t3_160) rfl rfl rfl (Nat.le_of_ble_eq_true rfl) ms_thr d_M_go_104 (fun H locs hP hS => ?_)
                refine lv_aload_n S.1 S.2.1 d_M_go_107 rfl (lv_at hl 1 rfl) ?_
                refine ur_get (k := 0) (v := .int ((up2 (mNow (up2 w 0 0 0) t F M Q6 K) 0 0 0) 0 0)) S hK hP (by decide) mg_obj rfl (fun w h => hU w (in_M w h)) 0 (by decide) (hU _ t3_160) rfl d_M_go_108 ?_
                rw [up2_s]
                refine lv_if_le (tgt := 116) S.1 S.2.1 d_M_go_111 (by decide) (fun c_9 => ?_) (fun c_9 => ?_)
                · refine lv_aload_n S.1 S.2.1 d_M_go_116 rfl (lv_at hl 1 rfl) ?_
                  refine lv_iload_n S.1 S.2.1 d_M_go_117 rfl (lv_at hl 2 rfl) ?_
                  refine lv_iload S.1 S.2.1 d_M_go_118 (lv_at hl 0 rfl) ?_
                  refine lv_iload_n S.1 S.2.1 d_M_go_120 rfl (lv_at hl 4 rfl) ?_
                  refine uVv (n := 3) (b := 0) (As := [.int (nI j), .int (nI p_5), .int t]) (rest := []) S hK hN hP hS (c_M_start hJ (up2 (mNow (up2 w 0 0 0) t F M Q6 K) 0 0 0) M hM F hF j p_5 hj (by omega) t (mV_up (by decide) hv) (fun j ch hj hch => by rw [up2_f (by decide)]; exact ho j ch hj hch)) ⟨hU, t4_154, t4_151, t1_8, by decide +kernel, by decide, by decide⟩ t4_153 tp_34 (by decide) mg_obj rfl rfl rfl hl.1 rfl (Nat.le_of_ble_eq_true rfl) d_M_go_121 ⟨Nat.le_of_ble_eq_true rfl, Nat.le_of_ble_eq_true rfl⟩ (fun u H locs hp hP hS => ?_)
                  rw [hp] at hP
                  refine lv_aload_n S.1 S.2.1 d_M_go_124 rfl (lv_at hl 1 rfl) ?_
                  refine ur_get (k := 0) (v := .ref (ad 5)) S hK hP (by decide) mg_obj rfl (fun w h => hU w (in_M w h)) 5 (by decide) (hU _ t3_165) rfl d_M_go_125 ?_
                  refine lv_iload S.1 S.2.1 d_M_go_128 (lv_at hl 0 rfl) ?_
                  refine ur_iald (k := 5) (n := 40) (f := ((mStart (up2 (mNow (up2 w 0 0 0) t F M Q6 K) 0 0 0) j p_5 t F M) 5)) (j := p_5) S hK hP (by decide) 0 (mg_arr 5 (by decide)) rfl rfl (by omega) (by decide) d_M_go_130 ?_
                  exact uIret S hr hlk (mStart (up2 (mNow (up2 w 0 0 0) t F M Q6 K) 0 0 0) j p_5 t F M) hP hS (by unfold mGoP; rw [if_pos ⟨c_a, c_b⟩, nI_clamp (by omega), show mGoQ (mNow (up2 w 0 0 0) t F M Q6 K) j x2 F = some p_5 from by rw [mGoQ, if_neg c_t, if_pos c_x, hX_4]]; exact ⟨rfl, rfl⟩) d_M_go_131
                · exact absurd (by decide) c_9
              · exact absurd (nI_pos' (by omega)) c_8
          · refine lv_aload_n S.1 S.2.1 d_M_go_56 rfl (lv_at hl 0 rfl) ?_
            refine lv_aload_n S.1 S.2.1 d_M_go_57 rfl (lv_at hl 0 rfl) ?_
            refine ur_get (k := 0) (v := .ref (ad 12)) S hK hP (by decide) mg_obj rfl (fun w h => hU w (in_M w h)) 12 (by decide) (hU _ t3_172) rfl d_M_go_58 ?_
            refine lv_iload_n S.1 S.2.1 d_M_go_61 rfl (lv_at hl 1 rfl) ?_
            refine ur_iald (k := 12) (n := 6) (f := ((mNow (up2 w 0 0 0) t F M Q6 K) 12)) (j := j) S hK hP (by decide) 0 (mg_arr 12 (by decide)) rfl rfl hj (by decide) d_M_go_62 ?_
            refine lv_aload_n S.1 S.2.1 d_M_go_63 rfl (lv_at hl 0 rfl) ?_
            refine ur_get (k := 0) (v := .ref (ad 14)) S hK hP (by decide) mg_obj rfl (fun w h => hU w (in_M w h)) 14 (by decide) (hU _ t3_174) rfl d_M_go_64 ?_
            refine lv_iload_n S.1 S.2.1 d_M_go_67 rfl (lv_at hl 1 rfl) ?_
            refine ur_iald (k := 14) (n := 6) (f := ((mNow (up2 w 0 0 0) t F M Q6 K) 14)) (j := j) S hK hP (by decide) 0 (mg_arr 14 (by decide)) rfl rfl hj (by decide) d_M_go_68 ?_
            refine uVi (n := 2) (b := 0) (As := [.int (((mNow (up2 w 0 0 0) t F M Q6 K) 12) j), .int (((mNow (up2 w 0 0 0) t F M Q6 K) 14) j)]) (rest := []) S hK hN hP hS (c_M_below hJ (mNow (up2 w 0 0 0) t F M Q6 K) F hF (((mNow (up2 w 0 0 0) t F M Q6 K) 12) j) (((mNow (up2 w 0 0 0) t F M Q6 K) 14) j)) ⟨hU, t4_71, t4_68, t1_8, by decide +kernel, by decide, by decide⟩ t4_70 tp_25 (by decide) mg_obj rfl rfl rfl hl.1 rfl (Nat.le_of_ble_eq_true rfl) d_M_go_69 ⟨Nat.le_of_ble_eq_true rfl, Nat.le_of_ble_eq_true rfl⟩ (fun r u H locs hp hP hS => ?_)
            obtain ⟨hu, rfl⟩ := hp
            rw [hu] at hP
            refine lv_goto (tgt := 91) S.1 S.2.1 d_M_go_72 (by decide) ?_
            rcases hX_10 : mBlw (mNow (up2 w 0 0 0) t F M Q6 K) (((mNow (up2 w 0 0 0) t F M Q6 K) 12) j) (((mNow (up2 w 0 0 0) t F M Q6 K) 14) j) F with _ | p_11
            · refine lv_istore (lv' := [(4, .int (-1)), (0, .ref (ad 0)), (1, .int (nI j)), (2, .int x2), (3, .int t)]) S.1 S.2.1 d_M_go_91 hl (by decide) rfl (fun ls hl => ?_)
              refine lv_aload_n S.1 S.2.1 d_M_go_93 rfl (lv_at hl 1 rfl) ?_
              refine lv_iload S.1 S.2.1 d_M_go_94 (lv_at hl 0 rfl) ?_
              refine lv_if_ge (tgt := 103) S.1 S.2.1 d_M_go_96 (by decide) (fun c_12 => ?_) (fun c_12 => ?_)
              · exact absurd c_12 (by decide)
              · refine lv_iconst (v := 2) S.1 S.2.1 d_M_go_99 (by decide) ?_
                refine lv_goto (tgt := 104) S.1 S.2.1 d_M_go_100 (by decide) ?_
                refine ur_put (k := 0) (v := .int 2) (g' := mG ca ad (up2 (mNow (up2 w 0 0 0) t F M Q6 K) 0 0 2)) S hK hP (uD _ hJ) hS (by decide) mg_obj rfl (fun w h => hU w (in_M w h)) ty_M tyk_M nm_M 0 (by decide) (hU _ t3_160) rfl rfl rfl (Nat.le_of_ble_eq_true rfl) ms_thr d_M_go_104 (fun H locs hP hS => ?_)
                refine lv_aload_n S.1 S.2.1 d_M_go_107 rfl (lv_at hl 1 rfl) ?_
                refine ur_get (k := 0) (v := .int ((up2 (mNow (up2 w 0 0 0) t F M Q6 K) 0 0 2) 0 0)) S hK hP (by decide) mg_obj rfl (fun w h => hU w (in_M w h)) 0 (by decide) (hU _ t3_160) rfl d_M_go_108 ?_
                rw [up2_s]
                refine lv_if_le (tgt := 116) S.1 S.2.1 d_M_go_111 (by decide) (fun c_13 => ?_) (fun c_13 => ?_)
                · exact absurd c_13 (by decide)
                · refine lv_iconst (v := 0) S.1 S.2.1 d_M_go_114 (by decide) ?_
                  exact uIret S hr hlk (up2 (mNow (up2 w 0 0 0) t F M Q6 K) 0 0 2) hP hS (by unfold mGoP; rw [if_pos ⟨c_a, c_b⟩, nI_clamp (by omega), show mGoQ (mNow (up2 w 0 0 0) t F M Q6 K) j x2 F = none from by rw [mGoQ, if_neg c_t, if_neg c_x, hX_10]]; exact ⟨rfl, rfl⟩) d_M_go_115
            · have hp_11 := mBlw_lt _ _ hX_10
              refine lv_istore (lv' := [(4, .int (nI p_11)), (0, .ref (ad 0)), (1, .int (nI j)), (2, .int x2), (3, .int t)]) S.1 S.2.1 d_M_go_91 hl (by decide) rfl (fun ls hl => ?_)
              refine lv_aload_n S.1 S.2.1 d_M_go_93 rfl (lv_at hl 1 rfl) ?_
              refine lv_iload S.1 S.2.1 d_M_go_94 (lv_at hl 0 rfl) ?_
              refine lv_if_ge (tgt := 103) S.1 S.2.1 d_M_go_96 (by decide) (fun c_14 => ?_) (fun c_14 => ?_)
              · refine lv_iconst (v := 0) S.1 S.2.1 d_M_go_103 (by decide) ?_
                refine ur_put (k := 0) (v := .int 0) (g' := mG ca ad (up2 (mNow (up2 w 0 0 0) t F M Q6 K) 0 0 0)) S hK hP (uD _ hJ) hS (by decide) mg_obj rfl (fun w h => hU w (in_M w h)) ty_M tyk_M nm_M 0 (by decide) (hU _ t3_160) rfl rfl rfl (Nat.le_of_ble_eq_true rfl) ms_thr d_M_go_104 (fun H locs hP hS => ?_)
                refine lv_aload_n S.1 S.2.1 d_M_go_107 rfl (lv_at hl 1 rfl) ?_
                refine ur_get (k := 0) (v := .int ((up2 (mNow (up2 w 0 0 0) t F M Q6 K) 0 0 0) 0 0)) S hK hP (by decide) mg_obj rfl (fun w h => hU w (in_M w h)) 0 (by decide) (hU _ t3_160) rfl d_M_go_108 ?_
                rw [up2_s]
                refine lv_if_le (tgt := 116) S.1 S.2.1 d_M_go_111 (by decide) (fun c_15 => ?_) (fun c_15 => ?_)
                · refine lv_aload_n S.1 S.2.1 d_M_go_116 rfl (lv_at hl 1 rfl) ?_
                  refine lv_iload_n S.1 S.2.1 d_M_go_117 rfl (lv_at hl 2 rfl) ?_
                  refine lv_iload S.1 S.2.1 d_M_go_118 (lv_at hl 0 rfl) ?_
                  refine lv_iload_n S.1 S.2.1 d_M_go_120 rfl (lv_at hl 4 rfl) ?_
                  refine uVv (n := 3) (b := 0) (As := [.int (nI j), .int (nI p_11), .int t]) (rest := []) S hK hN hP hS (c_M_start hJ (up2 (mNow (up2 w 0 0 0) t F M Q6 K) 0 0 0) M hM F hF j p_11 hj (by omega) t (mV_up (by decide) hv) (fun j ch hj hch => by rw [up2_f (by decide)]; exact ho j ch hj hch)) ⟨hU, t4_154, t4_151, t1_8, by decide +kernel, by decide, by decide⟩ t4_153 tp_34 (by decide) mg_obj rfl rfl rfl hl.1 rfl (Nat.le_of_ble_eq_true rfl) d_M_go_121 ⟨Nat.le_of_ble_eq_true rfl, Nat.le_of_ble_eq_true rfl⟩ (fun u H locs hp hP hS => ?_)
                  rw [hp] at hP
                  refine lv_aload_n S.1 S.2.1 d_M_go_124 rfl (lv_at hl 1 rfl) ?_
                  refine ur_get (k := 0) (v := .ref (ad 5)) S hK hP (by decide) mg_obj rfl (fun w h => hU w (in_M w h)) 5 (by decide) (hU _ t3_165) rfl d_M_go_125 ?_
                  refine lv_iload S.1 S.2.1 d_M_go_128 (lv_at hl 0 rfl) ?_
                  refine ur_iald (k := 5) (n := 40) (f := ((mStart (up2 (mNow (up2 w 0 0 0) t F M Q6 K) 0 0 0) j p_11 t F M) 5)) (j := p_11) S hK hP (by decide) 0 (mg_arr 5 (by decide)) rfl rfl (by omega) (by decide) d_M_go_130 ?_
                  exact uIret S hr hlk (mStart (up2 (mNow (up2 w 0 0 0) t F M Q6 K) 0 0 0) j p_11 t F M) hP hS (by unfold mGoP; rw [if_pos ⟨c_a, c_b⟩, nI_clamp (by omega), show mGoQ (mNow (up2 w 0 0 0) t F M Q6 K) j x2 F = some p_11 from by rw [mGoQ, if_neg c_t, if_neg c_x, hX_10]]; exact ⟨rfl, rfl⟩) d_M_go_131
                · exact absurd (by decide) c_15
              · exact absurd (nI_pos' (by omega)) c_14
        · refine lv_iconst (v := (-1)) S.1 S.2.1 d_M_go_48 (by decide) ?_
          refine lv_goto (tgt := 91) S.1 S.2.1 d_M_go_49 (by decide) ?_
          refine lv_istore (lv' := [(4, .int (-1)), (0, .ref (ad 0)), (1, .int (nI j)), (2, .int x2), (3, .int t)]) S.1 S.2.1 d_M_go_91 hl (by decide) rfl (fun ls hl => ?_)
          refine lv_aload_n S.1 S.2.1 d_M_go_93 rfl (lv_at hl 1 rfl) ?_
          refine lv_iload S.1 S.2.1 d_M_go_94 (lv_at hl 0 rfl) ?_
          refine lv_if_ge (tgt := 103) S.1 S.2.1 d_M_go_96 (by decide) (fun c_16 => ?_) (fun c_16 => ?_)
          · exact absurd c_16 (by decide)
          · refine lv_iconst (v := 2) S.1 S.2.1 d_M_go_99 (by decide) ?_
            refine lv_goto (tgt := 104) S.1 S.2.1 d_M_go_100 (by decide) ?_
            refine ur_put (k := 0) (v := .int 2) (g' := mG ca ad (up2 (mNow (up2 w 0 0 0) t F M Q6 K) 0 0 2)) S hK hP (uD _ hJ) hS (by decide) mg_obj rfl (fun w h => hU w (in_M w h)) ty_M tyk_M nm_M 0 (by decide) (hU _ t3_160) rfl rfl rfl (Nat.le_of_ble_eq_true rfl) ms_thr d_M_go_104 (fun H locs hP hS => ?_)
            refine lv_aload_n S.1 S.2.1 d_M_go_107 rfl (lv_at hl 1 rfl) ?_
            refine ur_get (k := 0) (v := .int ((up2 (mNow (up2 w 0 0 0) t F M Q6 K) 0 0 2) 0 0)) S hK hP (by decide) mg_obj rfl (fun w h => hU w (in_M w h)) 0 (by decide) (hU _ t3_160) rfl d_M_go_108 ?_
            rw [up2_s]
            refine lv_if_le (tgt := 116) S.1 S.2.1 d_M_go_111 (by decide) (fun c_17 => ?_) (fun c_17 => ?_)
            · exact absurd c_17 (by decide)
            · refine lv_iconst (v := 0) S.1 S.2.1 d_M_go_114 (by decide) ?_
              exact uIret S hr hlk (up2 (mNow (up2 w 0 0 0) t F M Q6 K) 0 0 2) hP hS (by unfold mGoP; rw [if_pos ⟨c_a, c_b⟩, nI_clamp (by omega), show mGoQ (mNow (up2 w 0 0 0) t F M Q6 K) j x2 F = none from by rw [mGoQ, if_pos c_t]]; exact ⟨rfl, rfl⟩) d_M_go_115
      · exact absurd (by decide) c_3

set_option maxRecDepth 100000 in
set_option maxHeartbeats 4000000 in
theorem c_M_out {l : Launch} {D : va_G} {ca : Nat → ClassId} {ad : Nat → Nat} (hJ : uJ 22 ad) (w : Nat → Nat → Int32) (M : Nat) (hM : M = 64) (F : Nat) (hF : F = 40) (Q6 : Nat) (h6 : Q6 = 6) (K : Nat) (x1 t : Int32) (hT : isCh x1 ∧ mTick w t → mTok t F M Q6 K (up2 w 0 0 0)) (hv : ∀ ch, ch < 64 → (mNow (up2 w 0 0 0) t F M Q6 K) 2 ch < 272 ∨ (mNow (up2 w 0 0 0) t F M Q6 K) 2 ch = 300) (ho : mO (mNow (up2 w 0 0 0) t F M Q6 K) ((mNow (up2 w 0 0 0) t F M Q6 K) 22 0)) : uMi l y_M_out b_M_out 4 (some .int) 6 148 D clsAll (tysAll ca) 22 ad (mG ca ad) w [.ref (ad 0), .int x1, .int t] (fun r u => mOutP w x1 t F M Q6 K r u) := by
  refine uStart (by decide) (Nat.le_of_ble_eq_true rfl) ?_
  intro p e s m below meth c ls S hr hlk hK hN hP hl
  have hU : ∀ w ∈ uWS, w ∈ (Cond.code y_M_out b_M_out 4 (some .int) :: uWS) := fun w h => List.mem_cons_of_mem _ h
  have hS : va_S (uA 22 ad s.heap.size) s.heap s.heap [] := va_S.rf
  have hl : lv_has ls 4 [(0, .ref (ad 0)), (1, .int x1), (2, .int t)] := hl
  refine lv_aload_n S.1 S.2.1 d_M_out_0 rfl (lv_at hl 0 rfl) ?_
  refine lv_iload_n S.1 S.2.1 d_M_out_1 rfl (lv_at hl 1 rfl) ?_
  refine uSi (n := 1) (As := [.int x1]) (rest := [.ref (ad 0)]) S hK hN hP hS (c_M_isChannel hJ w x1) ⟨hU, t4_4, t4_2, t1_8, by decide +kernel, by decide, by decide⟩ t4_3 rfl hl.1 rfl (Nat.le_of_ble_eq_true rfl) d_M_out_2 ⟨Nat.le_of_ble_eq_true rfl, Nat.le_of_ble_eq_true rfl⟩ (fun r u H locs hp hP hS => ?_)
  obtain ⟨hu, rfl⟩ := hp
  rw [hu] at hP
  refine lv_if_eq (tgt := 20) S.1 S.2.1 d_M_out_5 (by decide) (fun c_a => ?_) (fun c_a => ?_)
  · have c_a := pI_no c_a
    refine lv_iconst (v := 1) S.1 S.2.1 d_M_out_20 (by decide) ?_
    refine ur_put (k := 0) (v := .int 1) (g' := mG ca ad (up2 w 0 0 1)) S hK hP (uD _ hJ) hS (by decide) mg_obj rfl (fun w h => hU w (in_M w h)) ty_M tyk_M nm_M 0 (by decide) (hU _ t3_160) rfl rfl rfl (Nat.le_of_ble_eq_true rfl) ms_thr d_M_out_21 (fun H locs hP hS => ?_)
    refine lv_aload_n S.1 S.2.1 d_M_out_24 rfl (lv_at hl 0 rfl) ?_
    refine ur_get (k := 0) (v := .int ((up2 w 0 0 1) 0 0)) S hK hP (by decide) mg_obj rfl (fun w h => hU w (in_M w h)) 0 (by decide) (hU _ t3_160) rfl d_M_out_25 ?_
    rw [up2_s]
    refine lv_if_le (tgt := 33) S.1 S.2.1 d_M_out_28 (by decide) (fun c_1 => ?_) (fun c_1 => ?_)
    · exact absurd c_1 (by decide)
    · refine lv_iconst (v := 0) S.1 S.2.1 d_M_out_31 (by decide) ?_
      exact uIret S hr hlk (up2 w 0 0 1) hP hS (by unfold mOutP; rw [if_neg (fun z => c_a z.1)]; exact ⟨rfl, rfl⟩) d_M_out_32
  · have c_a := pI_yes c_a
    refine lv_aload_n S.1 S.2.1 d_M_out_8 rfl (lv_at hl 0 rfl) ?_
    refine lv_iload_n S.1 S.2.1 d_M_out_9 rfl (lv_at hl 2 rfl) ?_
    refine uVi (n := 1) (b := 0) (As := [.int t]) (rest := [.ref (ad 0)]) S hK hN hP hS (c_M_isTick hJ w t) ⟨hU, t4_145, t4_142, t1_8, by decide +kernel, by decide, by decide⟩ t4_144 tp_32 (by decide) mg_obj rfl rfl rfl hl.1 rfl (Nat.le_of_ble_eq_true rfl) d_M_out_10 ⟨Nat.le_of_ble_eq_true rfl, Nat.le_of_ble_eq_true rfl⟩ (fun r u H locs hp hP hS => ?_)
    obtain ⟨hu, rfl⟩ := hp
    rw [hu] at hP
    refine lv_if_eq (tgt := 20) S.1 S.2.1 d_M_out_13 (by decide) (fun c_b => ?_) (fun c_b => ?_)
    · have c_b := pI_no c_b
      refine lv_iconst (v := 1) S.1 S.2.1 d_M_out_20 (by decide) ?_
      refine ur_put (k := 0) (v := .int 1) (g' := mG ca ad (up2 w 0 0 1)) S hK hP (uD _ hJ) hS (by decide) mg_obj rfl (fun w h => hU w (in_M w h)) ty_M tyk_M nm_M 0 (by decide) (hU _ t3_160) rfl rfl rfl (Nat.le_of_ble_eq_true rfl) ms_thr d_M_out_21 (fun H locs hP hS => ?_)
      refine lv_aload_n S.1 S.2.1 d_M_out_24 rfl (lv_at hl 0 rfl) ?_
      refine ur_get (k := 0) (v := .int ((up2 w 0 0 1) 0 0)) S hK hP (by decide) mg_obj rfl (fun w h => hU w (in_M w h)) 0 (by decide) (hU _ t3_160) rfl d_M_out_25 ?_
      rw [up2_s]
      refine lv_if_le (tgt := 33) S.1 S.2.1 d_M_out_28 (by decide) (fun c_2 => ?_) (fun c_2 => ?_)
      · exact absurd c_2 (by decide)
      · refine lv_iconst (v := 0) S.1 S.2.1 d_M_out_31 (by decide) ?_
        exact uIret S hr hlk (up2 w 0 0 1) hP hS (by unfold mOutP; rw [if_neg (fun z => c_b z.2)]; exact ⟨rfl, rfl⟩) d_M_out_32
    · have c_b := pI_yes c_b
      obtain ⟨ch, hch, ech⟩ := isCh_nat c_a
      subst ech
      refine lv_iconst (v := 0) S.1 S.2.1 d_M_out_16 (by decide) ?_
      refine lv_goto (tgt := 21) S.1 S.2.1 d_M_out_17 (by decide) ?_
      refine ur_put (k := 0) (v := .int 0) (g' := mG ca ad (up2 w 0 0 0)) S hK hP (uD _ hJ) hS (by decide) mg_obj rfl (fun w h => hU w (in_M w h)) ty_M tyk_M nm_M 0 (by decide) (hU _ t3_160) rfl rfl rfl (Nat.le_of_ble_eq_true rfl) ms_thr d_M_out_21 (fun H locs hP hS => ?_)
      refine lv_aload_n S.1 S.2.1 d_M_out_24 rfl (lv_at hl 0 rfl) ?_
      refine ur_get (k := 0) (v := .int ((up2 w 0 0 0) 0 0)) S hK hP (by decide) mg_obj rfl (fun w h => hU w (in_M w h)) 0 (by decide) (hU _ t3_160) rfl d_M_out_25 ?_
      rw [up2_s]
      refine lv_if_le (tgt := 33) S.1 S.2.1 d_M_out_28 (by decide) (fun c_3 => ?_) (fun c_3 => ?_)
      · refine lv_aload_n S.1 S.2.1 d_M_out_33 rfl (lv_at hl 0 rfl) ?_
        refine lv_iload_n S.1 S.2.1 d_M_out_34 rfl (lv_at hl 2 rfl) ?_
        refine uVv (n := 1) (b := 0) (As := [.int t]) (rest := []) S hK hN hP hS (c_M_tell hJ (up2 w 0 0 0) M hM F hF Q6 h6 K t (hT ⟨c_a, c_b⟩)) ⟨hU, t4_150, t4_147, t1_8, by decide +kernel, by decide, by decide⟩ t4_149 tp_33 (by decide) mg_obj rfl rfl rfl hl.1 rfl (Nat.le_of_ble_eq_true rfl) d_M_out_35 ⟨Nat.le_of_ble_eq_true rfl, Nat.le_of_ble_eq_true rfl⟩ (fun u H locs hp hP hS => ?_)
        rw [hp] at hP
        refine lv_aload_n S.1 S.2.1 d_M_out_38 rfl (lv_at hl 0 rfl) ?_
        refine ur_get (k := 0) (v := .ref (ad 2)) S hK hP (by decide) mg_obj rfl (fun w h => hU w (in_M w h)) 2 (by decide) (hU _ t3_162) rfl d_M_out_39 ?_
        refine lv_iload_n S.1 S.2.1 d_M_out_42 rfl (lv_at hl 1 rfl) ?_
        refine ur_sald (k := 2) (n := 64) (f := ((mNow (up2 w 0 0 0) t F M Q6 K) 2)) (j := ch) S hK hP (by decide) 4 (mg_arr 2 (by decide)) rfl rfl hch (by decide) d_M_out_43 ?_
        refine lv_iconst (v := (-1)) S.1 S.2.1 d_M_out_44 (by decide) ?_
        refine lv_icmp_ne (tgt := 52) S.1 S.2.1 d_M_out_45 (by decide) (fun c_t => ?_) (fun c_t => ?_)
        · refine lv_aload_n S.1 S.2.1 d_M_out_52 rfl (lv_at hl 0 rfl) ?_
          refine lv_aload_n S.1 S.2.1 d_M_out_53 rfl (lv_at hl 0 rfl) ?_
          refine ur_get (k := 0) (v := .ref (ad 2)) S hK hP (by decide) mg_obj rfl (fun w h => hU w (in_M w h)) 2 (by decide) (hU _ t3_162) rfl d_M_out_54 ?_
          refine lv_iload_n S.1 S.2.1 d_M_out_57 rfl (lv_at hl 1 rfl) ?_
          refine ur_sald (k := 2) (n := 64) (f := ((mNow (up2 w 0 0 0) t F M Q6 K) 2)) (j := ch) S hK hP (by decide) 4 (mg_arr 2 (by decide)) rfl rfl hch (by decide) d_M_out_58 ?_
          refine lv_iload_n S.1 S.2.1 d_M_out_59 rfl (lv_at hl 1 rfl) ?_
          refine uVi (n := 2) (b := 0) (As := [.int (((mNow (up2 w 0 0 0) t F M Q6 K) 2) ch), .int (nI ch)]) (rest := []) S hK hN hP hS (c_M_levelOf hJ (mNow (up2 w 0 0 0) t F M Q6 K) (((mNow (up2 w 0 0 0) t F M Q6 K) 2) ch) ch (hv ch (by omega)) hch) ⟨hU, t4_122, t4_119, t1_8, by decide +kernel, by decide, by decide⟩ t4_121 tp_31 (by decide) mg_obj rfl rfl rfl hl.1 rfl (Nat.le_of_ble_eq_true rfl) d_M_out_60 ⟨Nat.le_of_ble_eq_true rfl, Nat.le_of_ble_eq_true rfl⟩ (fun r u H locs hp hP hS => ?_)
          obtain ⟨hu, rfl⟩ := hp
          rw [hu] at hP
          refine lv_istore_n (lv' := [(3, .int (mLev (mNow (up2 w 0 0 0) t F M Q6 K) (((mNow (up2 w 0 0 0) t F M Q6 K) 2) ch) ch)), (0, .ref (ad 0)), (1, .int (nI ch)), (2, .int t)]) S.1 S.2.1 d_M_out_63 rfl hl (by decide) rfl (fun ls hl => ?_)
          refine lv_iload_n S.1 S.2.1 d_M_out_64 rfl (lv_at hl 0 rfl) ?_
          refine lv_if_lt (tgt := 72) S.1 S.2.1 d_M_out_65 (by decide) (fun c_o => ?_) (fun c_o => ?_)
          · refine lv_aload_n S.1 S.2.1 d_M_out_72 rfl (lv_at hl 1 rfl) ?_
            refine lv_iload_n S.1 S.2.1 d_M_out_73 rfl (lv_at hl 2 rfl) ?_
            refine uVi (n := 1) (b := 0) (As := [.int (nI ch)]) (rest := []) S hK hN hP hS (c_M_merged hJ (mNow (up2 w 0 0 0) t F M Q6 K) Q6 h6 ho ch hch) ⟨hU, t4_170, t4_167, t1_8, by decide +kernel, by decide, by decide⟩ t4_169 tp_36 (by decide) mg_obj rfl rfl rfl hl.1 rfl (Nat.le_of_ble_eq_true rfl) d_M_out_74 ⟨Nat.le_of_ble_eq_true rfl, Nat.le_of_ble_eq_true rfl⟩ (fun r u H locs hp hP hS => ?_)
            obtain ⟨hu, rfl⟩ := hp
            rw [hu] at hP
            exact uIret S hr hlk (mNow (up2 w 0 0 0) t F M Q6 K) hP hS (by unfold mOutP; rw [if_pos ⟨c_a, c_b⟩, nI_clamp (by omega)]; refine ⟨rfl, ?_⟩; unfold mOutA; rw [show mOwn (mNow (up2 w 0 0 0) t F M Q6 K) ch = mLev (mNow (up2 w 0 0 0) t F M Q6 K) ((mNow (up2 w 0 0 0) t F M Q6 K) 2 ch) ch from by rw [mOwn, if_neg c_t]]; first | rw [if_pos c_o] | rw [if_neg c_o]) d_M_out_77
          · refine lv_iload_n S.1 S.2.1 d_M_out_68 rfl (lv_at hl 0 rfl) ?_
            refine lv_goto (tgt := 77) S.1 S.2.1 d_M_out_69 (by decide) ?_
            exact uIret S hr hlk (mNow (up2 w 0 0 0) t F M Q6 K) hP hS (by unfold mOutP; rw [if_pos ⟨c_a, c_b⟩, nI_clamp (by omega)]; refine ⟨rfl, ?_⟩; unfold mOutA; rw [show mOwn (mNow (up2 w 0 0 0) t F M Q6 K) ch = mLev (mNow (up2 w 0 0 0) t F M Q6 K) ((mNow (up2 w 0 0 0) t F M Q6 K) 2 ch) ch from by rw [mOwn, if_neg c_t]]; first | rw [if_pos c_o] | rw [if_neg c_o]) d_M_out_77
        · refine lv_iconst (v := (-1)) S.1 S.2.1 d_M_out_48 (by decide) ?_
          refine lv_goto (tgt := 63) S.1 S.2.1 d_M_out_49 (by decide) ?_
          refine lv_istore_n (lv' := [(3, .int (-1)), (0, .ref (ad 0)), (1, .int (nI ch)), (2, .int t)]) S.1 S.2.1 d_M_out_63 rfl hl (by decide) rfl (fun ls hl => ?_)
          refine lv_iload_n S.1 S.2.1 d_M_out_64 rfl (lv_at hl 0 rfl) ?_
          refine lv_if_lt (tgt := 72) S.1 S.2.1 d_M_out_65 (by decide) (fun c_o => ?_) (fun c_o => ?_)
          · refine lv_aload_n S.1 S.2.1 d_M_out_72 rfl (lv_at hl 1 rfl) ?_
            refine lv_iload_n S.1 S.2.1 d_M_out_73 rfl (lv_at hl 2 rfl) ?_
            refine uVi (n := 1) (b := 0) (As := [.int (nI ch)]) (rest := []) S hK hN hP hS (c_M_merged hJ (mNow (up2 w 0 0 0) t F M Q6 K) Q6 h6 ho ch hch) ⟨hU, t4_170, t4_167, t1_8, by decide +kernel, by decide, by decide⟩ t4_169 tp_36 (by decide) mg_obj rfl rfl rfl hl.1 rfl (Nat.le_of_ble_eq_true rfl) d_M_out_74 ⟨Nat.le_of_ble_eq_true rfl, Nat.le_of_ble_eq_true rfl⟩ (fun r u H locs hp hP hS => ?_)
            obtain ⟨hu, rfl⟩ := hp
            rw [hu] at hP
            exact uIret S hr hlk (mNow (up2 w 0 0 0) t F M Q6 K) hP hS (by unfold mOutP; rw [if_pos ⟨c_a, c_b⟩, nI_clamp (by omega)]; refine ⟨rfl, ?_⟩; unfold mOutA; rw [show mOwn (mNow (up2 w 0 0 0) t F M Q6 K) ch = -1 from by rw [mOwn, if_pos c_t], if_pos (by decide)]) d_M_out_77
          · exact absurd (by decide) c_o
      · exact absurd (by decide) c_3

set_option maxRecDepth 100000 in
set_option maxHeartbeats 4000000 in
theorem c_M_playback {l : Launch} {D : va_G} {ca : Nat → ClassId} {ad : Nat → Nat} (hJ : uJ 22 ad) (w : Nat → Nat → Int32) (x1 x2 : Int32) (ho : mO w (w 22 0)) : uMi l y_M_playback b_M_playback 3 (some .int) 1 24 D clsAll (tysAll ca) 22 ad (mG ca ad) w [.ref (ad 0), .int x1, .int x2] (fun r u => mPbP w x1 x2 r u) := by
  refine uStart (by decide) (Nat.le_of_ble_eq_true rfl) ?_
  intro p e s m below meth c ls S hr hlk hK hN hP hl
  have hU : ∀ w ∈ uWS, w ∈ (Cond.code y_M_playback b_M_playback 3 (some .int) :: uWS) := fun w h => List.mem_cons_of_mem _ h
  have hS : va_S (uA 22 ad s.heap.size) s.heap s.heap [] := va_S.rf
  have hl : lv_has ls 3 [(0, .ref (ad 0)), (1, .int x1), (2, .int x2)] := hl
  refine lv_aload_n S.1 S.2.1 d_M_playback_0 rfl (lv_at hl 0 rfl) ?_
  refine lv_iload_n S.1 S.2.1 d_M_playback_1 rfl (lv_at hl 1 rfl) ?_
  refine uSi (n := 1) (As := [.int x1]) (rest := [.ref (ad 0)]) S hK hN hP hS (c_M_isPlayback hJ w x1) ⟨hU, t4_137, t4_135, t1_8, by decide +kernel, by decide, by decide⟩ t4_136 rfl hl.1 rfl (Nat.le_of_ble_eq_true rfl) d_M_playback_2 ⟨Nat.le_of_ble_eq_true rfl, Nat.le_of_ble_eq_true rfl⟩ (fun r u H locs hp hP hS => ?_)
  obtain ⟨hu, rfl⟩ := hp
  rw [hu] at hP
  refine lv_if_eq (tgt := 33) S.1 S.2.1 d_M_playback_5 (by decide) (fun c_a => ?_) (fun c_a => ?_)
  · have c_a := pI_no c_a
    refine lv_iconst (v := 1) S.1 S.2.1 d_M_playback_33 (by decide) ?_
    refine ur_put (k := 0) (v := .int 1) (g' := mG ca ad (up2 w 0 0 1)) S hK hP (uD _ hJ) hS (by decide) mg_obj rfl (fun w h => hU w (in_M w h)) ty_M tyk_M nm_M 0 (by decide) (hU _ t3_160) rfl rfl rfl (Nat.le_of_ble_eq_true rfl) ms_thr d_M_playback_34 (fun H locs hP hS => ?_)
    refine lv_aload_n S.1 S.2.1 d_M_playback_37 rfl (lv_at hl 0 rfl) ?_
    refine ur_get (k := 0) (v := .int ((up2 w 0 0 1) 0 0)) S hK hP (by decide) mg_obj rfl (fun w h => hU w (in_M w h)) 0 (by decide) (hU _ t3_160) rfl d_M_playback_38 ?_
    rw [up2_s]
    refine lv_if_le (tgt := 46) S.1 S.2.1 d_M_playback_41 (by decide) (fun c_1 => ?_) (fun c_1 => ?_)
    · exact absurd c_1 (by decide)
    · refine lv_iconst (v := 0) S.1 S.2.1 d_M_playback_44 (by decide) ?_
      exact uIret S hr hlk (up2 w 0 0 1) hP hS (by unfold mPbP; rw [if_neg (fun z => c_a z.1)]; exact ⟨rfl, rfl⟩) d_M_playback_45
  · have c_a := pI_yes c_a
    obtain ⟨j, hj, ej⟩ := isPb_nat c_a
    subst ej
    refine lv_iload_n S.1 S.2.1 d_M_playback_8 rfl (lv_at hl 2 rfl) ?_
    refine lv_if_lt (tgt := 33) S.1 S.2.1 d_M_playback_9 (by decide) (fun c_n => ?_) (fun c_n => ?_)
    · refine lv_iconst (v := 1) S.1 S.2.1 d_M_playback_33 (by decide) ?_
      refine ur_put (k := 0) (v := .int 1) (g' := mG ca ad (up2 w 0 0 1)) S hK hP (uD _ hJ) hS (by decide) mg_obj rfl (fun w h => hU w (in_M w h)) ty_M tyk_M nm_M 0 (by decide) (hU _ t3_160) rfl rfl rfl (Nat.le_of_ble_eq_true rfl) ms_thr d_M_playback_34 (fun H locs hP hS => ?_)
      refine lv_aload_n S.1 S.2.1 d_M_playback_37 rfl (lv_at hl 0 rfl) ?_
      refine ur_get (k := 0) (v := .int ((up2 w 0 0 1) 0 0)) S hK hP (by decide) mg_obj rfl (fun w h => hU w (in_M w h)) 0 (by decide) (hU _ t3_160) rfl d_M_playback_38 ?_
      rw [up2_s]
      refine lv_if_le (tgt := 46) S.1 S.2.1 d_M_playback_41 (by decide) (fun c_2 => ?_) (fun c_2 => ?_)
      · exact absurd c_2 (by decide)
      · refine lv_iconst (v := 0) S.1 S.2.1 d_M_playback_44 (by decide) ?_
        exact uIret S hr hlk (up2 w 0 0 1) hP hS (by unfold mPbP; rw [if_neg (fun z => z.2.1 c_n)]; exact ⟨rfl, rfl⟩) d_M_playback_45
    · refine lv_iload_n S.1 S.2.1 d_M_playback_12 rfl (lv_at hl 2 rfl) ?_
      refine lv_iconst (v := 5) S.1 S.2.1 d_M_playback_13 (by decide) ?_
      refine lv_icmp_lt (tgt := 29) S.1 S.2.1 d_M_playback_14 (by decide) (fun c_five => ?_) (fun c_five => ?_)
      · refine lv_iconst (v := 0) S.1 S.2.1 d_M_playback_29 (by decide) ?_
        refine lv_goto (tgt := 34) S.1 S.2.1 d_M_playback_30 (by decide) ?_
        refine ur_put (k := 0) (v := .int 0) (g' := mG ca ad (up2 w 0 0 0)) S hK hP (uD _ hJ) hS (by decide) mg_obj rfl (fun w h => hU w (in_M w h)) ty_M tyk_M nm_M 0 (by decide) (hU _ t3_160) rfl rfl rfl (Nat.le_of_ble_eq_true rfl) ms_thr d_M_playback_34 (fun H locs hP hS => ?_)
        refine lv_aload_n S.1 S.2.1 d_M_playback_37 rfl (lv_at hl 0 rfl) ?_
        refine ur_get (k := 0) (v := .int ((up2 w 0 0 0) 0 0)) S hK hP (by decide) mg_obj rfl (fun w h => hU w (in_M w h)) 0 (by decide) (hU _ t3_160) rfl d_M_playback_38 ?_
        rw [up2_s]
        refine lv_if_le (tgt := 46) S.1 S.2.1 d_M_playback_41 (by decide) (fun c_3 => ?_) (fun c_3 => ?_)
        · refine lv_iload_n S.1 S.2.1 d_M_playback_46 rfl (lv_at hl 2 rfl) ?_
          rcases pk_ix x2 (n := 5) (by decide) with c_x | c_x | ⟨jx, hjx, e_x⟩
          · exact absurd c_x c_n
          · refine lv_tableOut (tgt := 115) S.1 S.2.1 d_M_playback_47 (Or.inr (by rw [Int32.le_iff_toInt_le, nI_toInt (by decide)] at c_x; omega)) (by decide) ?_
            refine lv_aload_n S.1 S.2.1 d_M_playback_115 rfl (lv_at hl 0 rfl) ?_
            refine lv_iload_n S.1 S.2.1 d_M_playback_116 rfl (lv_at hl 1 rfl) ?_
            refine lv_iload_n S.1 S.2.1 d_M_playback_117 rfl (lv_at hl 2 rfl) ?_
            refine lv_bipush (v := 8) S.1 S.2.1 d_M_playback_118 (by decide) ?_
            refine lv_isub S.1 S.2.1 d_M_playback_120 ?_
            exact absurd c_five (fun z => Int32.lt_irrefl (Int32.lt_of_lt_of_le z c_x))
          · subst e_x
            rcases (by omega : jx = 0 ∨ jx = 1 ∨ jx = 2 ∨ jx = 3 ∨ jx = 4) with rfl | rfl | rfl | rfl | rfl
            · refine lv_tableIn (off := 33) (tgt := 80) S.1 S.2.1 d_M_playback_47 (by decide) (by decide) rfl (by decide) ?_
              refine lv_aload_n S.1 S.2.1 d_M_playback_80 rfl (lv_at hl 0 rfl) ?_
              refine ur_get (k := 0) (v := .ref (ad 12)) S hK hP (by decide) mg_obj rfl (fun w h => hU w (in_M w h)) 12 (by decide) (hU _ t3_172) rfl d_M_playback_81 ?_
              refine lv_iload_n S.1 S.2.1 d_M_playback_84 rfl (lv_at hl 1 rfl) ?_
              refine ur_iald (k := 12) (n := 6) (f := ((up2 w 0 0 0) 12)) (j := j) S hK hP (by decide) 0 (mg_arr 12 (by decide)) rfl rfl hj (by decide) d_M_playback_85 ?_
              exact uIret S hr hlk (up2 w 0 0 0) hP hS (by unfold mPbP; rw [if_pos ⟨c_a, c_n, Or.inl c_five⟩, nI_clamp (by omega)]; exact ⟨rfl, rfl⟩) d_M_playback_86
            · refine lv_tableIn (off := 40) (tgt := 87) S.1 S.2.1 d_M_playback_47 (by decide) (by decide) rfl (by decide) ?_
              refine lv_aload_n S.1 S.2.1 d_M_playback_87 rfl (lv_at hl 0 rfl) ?_
              refine ur_get (k := 0) (v := .ref (ad 14)) S hK hP (by decide) mg_obj rfl (fun w h => hU w (in_M w h)) 14 (by decide) (hU _ t3_174) rfl d_M_playback_88 ?_
              refine lv_iload_n S.1 S.2.1 d_M_playback_91 rfl (lv_at hl 1 rfl) ?_
              refine ur_iald (k := 14) (n := 6) (f := ((up2 w 0 0 0) 14)) (j := j) S hK hP (by decide) 0 (mg_arr 14 (by decide)) rfl rfl hj (by decide) d_M_playback_92 ?_
              exact uIret S hr hlk (up2 w 0 0 0) hP hS (by unfold mPbP; rw [if_pos ⟨c_a, c_n, Or.inl c_five⟩, nI_clamp (by omega)]; exact ⟨rfl, rfl⟩) d_M_playback_93
            · refine lv_tableIn (off := 47) (tgt := 94) S.1 S.2.1 d_M_playback_47 (by decide) (by decide) rfl (by decide) ?_
              refine lv_aload_n S.1 S.2.1 d_M_playback_94 rfl (lv_at hl 0 rfl) ?_
              refine ur_get (k := 0) (v := .ref (ad 13)) S hK hP (by decide) mg_obj rfl (fun w h => hU w (in_M w h)) 13 (by decide) (hU _ t3_173) rfl d_M_playback_95 ?_
              refine lv_iload_n S.1 S.2.1 d_M_playback_98 rfl (lv_at hl 1 rfl) ?_
              refine ur_iald (k := 13) (n := 6) (f := ((up2 w 0 0 0) 13)) (j := j) S hK hP (by decide) 0 (mg_arr 13 (by decide)) rfl rfl hj (by decide) d_M_playback_99 ?_
              exact uIret S hr hlk (up2 w 0 0 0) hP hS (by unfold mPbP; rw [if_pos ⟨c_a, c_n, Or.inl c_five⟩, nI_clamp (by omega)]; exact ⟨rfl, rfl⟩) d_M_playback_100
            · refine lv_tableIn (off := 54) (tgt := 101) S.1 S.2.1 d_M_playback_47 (by decide) (by decide) rfl (by decide) ?_
              refine lv_aload_n S.1 S.2.1 d_M_playback_101 rfl (lv_at hl 0 rfl) ?_
              refine ur_get (k := 0) (v := .ref (ad 15)) S hK hP (by decide) mg_obj rfl (fun w h => hU w (in_M w h)) 15 (by decide) (hU _ t3_175) rfl d_M_playback_102 ?_
              refine lv_iload_n S.1 S.2.1 d_M_playback_105 rfl (lv_at hl 1 rfl) ?_
              refine ur_iald (k := 15) (n := 6) (f := ((up2 w 0 0 0) 15)) (j := j) S hK hP (by decide) 0 (mg_arr 15 (by decide)) rfl rfl hj (by decide) d_M_playback_106 ?_
              exact uIret S hr hlk (up2 w 0 0 0) hP hS (by unfold mPbP; rw [if_pos ⟨c_a, c_n, Or.inl c_five⟩, nI_clamp (by omega)]; exact ⟨rfl, rfl⟩) d_M_playback_107
            · refine lv_tableIn (off := 61) (tgt := 108) S.1 S.2.1 d_M_playback_47 (by decide) (by decide) rfl (by decide) ?_
              refine lv_aload_n S.1 S.2.1 d_M_playback_108 rfl (lv_at hl 0 rfl) ?_
              refine ur_get (k := 0) (v := .ref (ad 16)) S hK hP (by decide) mg_obj rfl (fun w h => hU w (in_M w h)) 16 (by decide) (hU _ t3_176) rfl d_M_playback_109 ?_
              refine lv_iload_n S.1 S.2.1 d_M_playback_112 rfl (lv_at hl 1 rfl) ?_
              refine ur_iald (k := 16) (n := 6) (f := ((up2 w 0 0 0) 16)) (j := j) S hK hP (by decide) 0 (mg_arr 16 (by decide)) rfl rfl hj (by decide) d_M_playback_113 ?_
              exact uIret S hr hlk (up2 w 0 0 0) hP hS (by unfold mPbP; rw [if_pos ⟨c_a, c_n, Or.inl c_five⟩, nI_clamp (by omega)]; exact ⟨rfl, rfl⟩) d_M_playback_114
        · exact absurd (by decide) c_3
      · refine lv_iload_n S.1 S.2.1 d_M_playback_17 rfl (lv_at hl 2 rfl) ?_
        refine lv_bipush (v := 7) S.1 S.2.1 d_M_playback_18 (by decide) ?_
        refine lv_icmp_le (tgt := 33) S.1 S.2.1 d_M_playback_20 (by decide) (fun c_sev => ?_) (fun c_sev => ?_)
        · refine lv_iconst (v := 1) S.1 S.2.1 d_M_playback_33 (by decide) ?_
          refine ur_put (k := 0) (v := .int 1) (g' := mG ca ad (up2 w 0 0 1)) S hK hP (uD _ hJ) hS (by decide) mg_obj rfl (fun w h => hU w (in_M w h)) ty_M tyk_M nm_M 0 (by decide) (hU _ t3_160) rfl rfl rfl (Nat.le_of_ble_eq_true rfl) ms_thr d_M_playback_34 (fun H locs hP hS => ?_)
          refine lv_aload_n S.1 S.2.1 d_M_playback_37 rfl (lv_at hl 0 rfl) ?_
          refine ur_get (k := 0) (v := .int ((up2 w 0 0 1) 0 0)) S hK hP (by decide) mg_obj rfl (fun w h => hU w (in_M w h)) 0 (by decide) (hU _ t3_160) rfl d_M_playback_38 ?_
          rw [up2_s]
          refine lv_if_le (tgt := 46) S.1 S.2.1 d_M_playback_41 (by decide) (fun c_4 => ?_) (fun c_4 => ?_)
          · exact absurd c_4 (by decide)
          · refine lv_iconst (v := 0) S.1 S.2.1 d_M_playback_44 (by decide) ?_
            exact uIret S hr hlk (up2 w 0 0 1) hP hS (by unfold mPbP; rw [if_neg (fun z => z.2.2.elim c_five (fun y => y.1 c_sev))]; exact ⟨rfl, rfl⟩) d_M_playback_45
        · refine lv_iload_n S.1 S.2.1 d_M_playback_23 rfl (lv_at hl 2 rfl) ?_
          refine lv_bipush (v := 72) S.1 S.2.1 d_M_playback_24 (by decide) ?_
          refine lv_icmp_ge (tgt := 33) S.1 S.2.1 d_M_playback_26 (by decide) (fun c_top => ?_) (fun c_top => ?_)
          · refine lv_iconst (v := 1) S.1 S.2.1 d_M_playback_33 (by decide) ?_
            refine ur_put (k := 0) (v := .int 1) (g' := mG ca ad (up2 w 0 0 1)) S hK hP (uD _ hJ) hS (by decide) mg_obj rfl (fun w h => hU w (in_M w h)) ty_M tyk_M nm_M 0 (by decide) (hU _ t3_160) rfl rfl rfl (Nat.le_of_ble_eq_true rfl) ms_thr d_M_playback_34 (fun H locs hP hS => ?_)
            refine lv_aload_n S.1 S.2.1 d_M_playback_37 rfl (lv_at hl 0 rfl) ?_
            refine ur_get (k := 0) (v := .int ((up2 w 0 0 1) 0 0)) S hK hP (by decide) mg_obj rfl (fun w h => hU w (in_M w h)) 0 (by decide) (hU _ t3_160) rfl d_M_playback_38 ?_
            rw [up2_s]
            refine lv_if_le (tgt := 46) S.1 S.2.1 d_M_playback_41 (by decide) (fun c_5 => ?_) (fun c_5 => ?_)
            · exact absurd c_5 (by decide)
            · refine lv_iconst (v := 0) S.1 S.2.1 d_M_playback_44 (by decide) ?_
              exact uIret S hr hlk (up2 w 0 0 1) hP hS (by unfold mPbP; rw [if_neg (fun z => z.2.2.elim c_five (fun y => y.2 c_top))]; exact ⟨rfl, rfl⟩) d_M_playback_45
          · refine lv_iconst (v := 0) S.1 S.2.1 d_M_playback_29 (by decide) ?_
            refine lv_goto (tgt := 34) S.1 S.2.1 d_M_playback_30 (by decide) ?_
            refine ur_put (k := 0) (v := .int 0) (g' := mG ca ad (up2 w 0 0 0)) S hK hP (uD _ hJ) hS (by decide) mg_obj rfl (fun w h => hU w (in_M w h)) ty_M tyk_M nm_M 0 (by decide) (hU _ t3_160) rfl rfl rfl (Nat.le_of_ble_eq_true rfl) ms_thr d_M_playback_34 (fun H locs hP hS => ?_)
            refine lv_aload_n S.1 S.2.1 d_M_playback_37 rfl (lv_at hl 0 rfl) ?_
            refine ur_get (k := 0) (v := .int ((up2 w 0 0 0) 0 0)) S hK hP (by decide) mg_obj rfl (fun w h => hU w (in_M w h)) 0 (by decide) (hU _ t3_160) rfl d_M_playback_38 ?_
            rw [up2_s]
            refine lv_if_le (tgt := 46) S.1 S.2.1 d_M_playback_41 (by decide) (fun c_6 => ?_) (fun c_6 => ?_)
            · refine lv_iload_n S.1 S.2.1 d_M_playback_46 rfl (lv_at hl 2 rfl) ?_
              rcases pk_ix x2 (n := 5) (by decide) with c_x | c_x | ⟨jx, hjx, e_x⟩
              · exact absurd c_x c_n
              · refine lv_tableOut (tgt := 115) S.1 S.2.1 d_M_playback_47 (Or.inr (by rw [Int32.le_iff_toInt_le, nI_toInt (by decide)] at c_x; omega)) (by decide) ?_
                refine lv_aload_n S.1 S.2.1 d_M_playback_115 rfl (lv_at hl 0 rfl) ?_
                refine lv_iload_n S.1 S.2.1 d_M_playback_116 rfl (lv_at hl 1 rfl) ?_
                refine lv_iload_n S.1 S.2.1 d_M_playback_117 rfl (lv_at hl 2 rfl) ?_
                refine lv_bipush (v := 8) S.1 S.2.1 d_M_playback_118 (by decide) ?_
                refine lv_isub S.1 S.2.1 d_M_playback_120 ?_
                obtain ⟨jw, hjw, ejw⟩ := nI_of c_n
                obtain ⟨chw, hchw, ehw⟩ : ∃ k : Nat, k < 64 ∧ x2 = nI (k + 8) := by
                  have h7 : ¬ nI jw ≤ nI 7 := by rw [← ejw]; exact c_sev
                  have h8 : ¬ nI 72 ≤ nI jw := by rw [← ejw]; exact c_top
                  rw [nI_leI (by omega) (by decide)] at h7; rw [nI_leI (by decide) (by omega)] at h8
                  exact ⟨jw - 8, by omega, by rw [ejw]; congr 1; omega⟩
                rw [show x2 - 8 = nI chw from by rw [ehw, show (8 : Int32) = nI 8 from rfl, pk_sub (by omega), Nat.add_sub_cancel]]
                refine lv_aload_n S.1 S.2.1 d_M_playback_121 rfl (lv_at hl 0 rfl) ?_
                refine ur_get (k := 0) (v := .int ((up2 w 0 0 0) 22 0)) S hK hP (by decide) mg_obj rfl (fun w h => hU w (in_M w h)) 22 (by decide) (hU _ t3_182) rfl d_M_playback_122 ?_
                refine uVi (n := 3) (b := 0) (As := [.int (nI j), .int (nI chw), .int ((up2 w 0 0 0) 22 0)]) (rest := []) S hK hN hP hS (c_M_levelAt hJ (up2 w 0 0 0) j chw hj (by omega) ((up2 w 0 0 0) 22 0) (fun z => by rw [up2_f (by decide)]; rw [up2_f (by decide), up2_f (by decide)] at z; rw [up2_f (by decide)]; exact ho j chw (by omega) (by omega) z)) ⟨hU, t4_158, t4_155, t1_8, by decide +kernel, by decide, by decide⟩ t4_157 tp_35 (by decide) mg_obj rfl rfl rfl hl.1 rfl (Nat.le_of_ble_eq_true rfl) d_M_playback_125 ⟨Nat.le_of_ble_eq_true rfl, Nat.le_of_ble_eq_true rfl⟩ (fun r u H locs hp hP hS => ?_)
                obtain ⟨hu, rfl⟩ := hp
                rw [hu] at hP
                exact uIret S hr hlk (up2 w 0 0 0) hP hS (by unfold mPbP; rw [if_pos ⟨c_a, c_n, Or.inr ⟨c_sev, c_top⟩⟩, nI_clamp (by omega)]; refine ⟨rfl, ?_⟩; unfold mPbv; rw [if_neg (fun h => by subst h; exact absurd c_x (by decide)), if_neg (fun h => by subst h; exact absurd c_x (by decide)), if_neg (fun h => by subst h; exact absurd c_x (by decide)), if_neg (fun h => by subst h; exact absurd c_x (by decide)), if_neg (fun h => by subst h; exact absurd c_x (by decide)), show x2.toNatClampNeg - 8 = chw from by rw [ehw, nI_clamp (by omega)]; omega]) d_M_playback_128
              · subst e_x
                rcases (by omega : jx = 0 ∨ jx = 1 ∨ jx = 2 ∨ jx = 3 ∨ jx = 4) with rfl | rfl | rfl | rfl | rfl
                · refine lv_tableIn (off := 33) (tgt := 80) S.1 S.2.1 d_M_playback_47 (by decide) (by decide) rfl (by decide) ?_
                  refine lv_aload_n S.1 S.2.1 d_M_playback_80 rfl (lv_at hl 0 rfl) ?_
                  refine ur_get (k := 0) (v := .ref (ad 12)) S hK hP (by decide) mg_obj rfl (fun w h => hU w (in_M w h)) 12 (by decide) (hU _ t3_172) rfl d_M_playback_81 ?_
                  refine lv_iload_n S.1 S.2.1 d_M_playback_84 rfl (lv_at hl 1 rfl) ?_
                  refine ur_iald (k := 12) (n := 6) (f := ((up2 w 0 0 0) 12)) (j := j) S hK hP (by decide) 0 (mg_arr 12 (by decide)) rfl rfl hj (by decide) d_M_playback_85 ?_
                  exact uIret S hr hlk (up2 w 0 0 0) hP hS (by unfold mPbP; rw [if_pos ⟨c_a, c_n, Or.inr ⟨c_sev, c_top⟩⟩, nI_clamp (by omega)]; exact ⟨rfl, rfl⟩) d_M_playback_86
                · refine lv_tableIn (off := 40) (tgt := 87) S.1 S.2.1 d_M_playback_47 (by decide) (by decide) rfl (by decide) ?_
                  refine lv_aload_n S.1 S.2.1 d_M_playback_87 rfl (lv_at hl 0 rfl) ?_
                  refine ur_get (k := 0) (v := .ref (ad 14)) S hK hP (by decide) mg_obj rfl (fun w h => hU w (in_M w h)) 14 (by decide) (hU _ t3_174) rfl d_M_playback_88 ?_
                  refine lv_iload_n S.1 S.2.1 d_M_playback_91 rfl (lv_at hl 1 rfl) ?_
                  refine ur_iald (k := 14) (n := 6) (f := ((up2 w 0 0 0) 14)) (j := j) S hK hP (by decide) 0 (mg_arr 14 (by decide)) rfl rfl hj (by decide) d_M_playback_92 ?_
                  exact uIret S hr hlk (up2 w 0 0 0) hP hS (by unfold mPbP; rw [if_pos ⟨c_a, c_n, Or.inr ⟨c_sev, c_top⟩⟩, nI_clamp (by omega)]; exact ⟨rfl, rfl⟩) d_M_playback_93
                · refine lv_tableIn (off := 47) (tgt := 94) S.1 S.2.1 d_M_playback_47 (by decide) (by decide) rfl (by decide) ?_
                  refine lv_aload_n S.1 S.2.1 d_M_playback_94 rfl (lv_at hl 0 rfl) ?_
                  refine ur_get (k := 0) (v := .ref (ad 13)) S hK hP (by decide) mg_obj rfl (fun w h => hU w (in_M w h)) 13 (by decide) (hU _ t3_173) rfl d_M_playback_95 ?_
                  refine lv_iload_n S.1 S.2.1 d_M_playback_98 rfl (lv_at hl 1 rfl) ?_
                  refine ur_iald (k := 13) (n := 6) (f := ((up2 w 0 0 0) 13)) (j := j) S hK hP (by decide) 0 (mg_arr 13 (by decide)) rfl rfl hj (by decide) d_M_playback_99 ?_
                  exact uIret S hr hlk (up2 w 0 0 0) hP hS (by unfold mPbP; rw [if_pos ⟨c_a, c_n, Or.inr ⟨c_sev, c_top⟩⟩, nI_clamp (by omega)]; exact ⟨rfl, rfl⟩) d_M_playback_100
                · refine lv_tableIn (off := 54) (tgt := 101) S.1 S.2.1 d_M_playback_47 (by decide) (by decide) rfl (by decide) ?_
                  refine lv_aload_n S.1 S.2.1 d_M_playback_101 rfl (lv_at hl 0 rfl) ?_
                  refine ur_get (k := 0) (v := .ref (ad 15)) S hK hP (by decide) mg_obj rfl (fun w h => hU w (in_M w h)) 15 (by decide) (hU _ t3_175) rfl d_M_playback_102 ?_
                  refine lv_iload_n S.1 S.2.1 d_M_playback_105 rfl (lv_at hl 1 rfl) ?_
                  refine ur_iald (k := 15) (n := 6) (f := ((up2 w 0 0 0) 15)) (j := j) S hK hP (by decide) 0 (mg_arr 15 (by decide)) rfl rfl hj (by decide) d_M_playback_106 ?_
                  exact uIret S hr hlk (up2 w 0 0 0) hP hS (by unfold mPbP; rw [if_pos ⟨c_a, c_n, Or.inr ⟨c_sev, c_top⟩⟩, nI_clamp (by omega)]; exact ⟨rfl, rfl⟩) d_M_playback_107
                · refine lv_tableIn (off := 61) (tgt := 108) S.1 S.2.1 d_M_playback_47 (by decide) (by decide) rfl (by decide) ?_
                  refine lv_aload_n S.1 S.2.1 d_M_playback_108 rfl (lv_at hl 0 rfl) ?_
                  refine ur_get (k := 0) (v := .ref (ad 16)) S hK hP (by decide) mg_obj rfl (fun w h => hU w (in_M w h)) 16 (by decide) (hU _ t3_176) rfl d_M_playback_109 ?_
                  refine lv_iload_n S.1 S.2.1 d_M_playback_112 rfl (lv_at hl 1 rfl) ?_
                  refine ur_iald (k := 16) (n := 6) (f := ((up2 w 0 0 0) 16)) (j := j) S hK hP (by decide) 0 (mg_arr 16 (by decide)) rfl rfl hj (by decide) d_M_playback_113 ?_
                  exact uIret S hr hlk (up2 w 0 0 0) hP hS (by unfold mPbP; rw [if_pos ⟨c_a, c_n, Or.inr ⟨c_sev, c_top⟩⟩, nI_clamp (by omega)]; exact ⟨rfl, rfl⟩) d_M_playback_114
            · exact absurd (by decide) c_6
