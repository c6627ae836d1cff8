/-! The model: tell, go, out, playback, count (printed by wip/gen/gen_m5.py) -/
set_option maxRecDepth 100000 in
set_option maxHeartbeats 4000000 in
theorem c_M_tell {l : Launch} {D : va_G} {ca : Nat → ClassId} {ad : Nat → Nat} (hJ : uJ 22 ad) (w : Nat → Nat → Int32) (M : Nat) (hM : M = 64) (F : Nat) (hF : F = 40) (Q6 : Nat) (h6 : Q6 = 6) (K : Nat) (t : Int32) (hT : mTok t F M Q6 K w) : uMv l y_M_tell b_M_tell 6 (none : Option Jvm.ClassFile.FieldType) 5 123 D clsAll (tysAll ca) 22 ad (mG ca ad) w [.ref (ad 0), .int t] (fun u => u = mNow w t F M Q6 K) := by
  refine uStart (by decide) (Nat.le_of_ble_eq_true rfl) ?_
  intro p e s m below meth c ls S hr hlk hK hN hP hl
  have hU : ∀ w ∈ uWS, w ∈ (Cond.code y_M_tell b_M_tell 6 (none : Option Jvm.ClassFile.FieldType) :: uWS) := fun w h => List.mem_cons_of_mem _ h
  have hS : va_S (uA 22 ad s.heap.size) s.heap s.heap [] := va_S.rf
  have hl : lv_has ls 6 [(0, .ref (ad 0)), (1, .int t)] := hl
  refine lv_iconst (v := 1) S.1 S.2.1 d_M_tell_0 (by decide) ?_
  refine lv_istore_n (lv' := [(2, .int 1), (0, .ref (ad 0)), (1, .int t)]) S.1 S.2.1 d_M_tell_1 rfl hl (by decide) rfl (fun ls hl => ?_)
  have L : ∀ k : Nat, ∀ v : Nat → Nat → Int32, (mTok t F M Q6 k v ∧ mNow v t F M Q6 k = mNow w t F M Q6 K) → ∀ (H : Heap) (locs : List Loc) (ls : Array Slot), va_P D clsAll (uw 22 ad (mG ca ad v)) H → va_S (uA 22 ad s.heap.size) s.heap H locs → lv_has ls 6 [(2, .int 1), (0, .ref (ad 0)), (1, .int t)] → uGv 5 123 D clsAll 22 ad (mG ca ad) (fun u => u = mNow w t F M Q6 K) [.ref (ad 0), .int t] p l e s m below meth c H locs 2 ls [] := by
    refine downTo ?_ ?_
    · intro v hI H locs ls hP hS hl
      refine lv_iload_n S.1 S.2.1 d_M_tell_2 rfl (lv_at hl 0 rfl) ?_
      refine lv_if_eq (tgt := 131) S.1 S.2.1 d_M_tell_3 (by decide) (fun c_1 => ?_) (fun c_1 => ?_)
      · exact absurd c_1 (by decide)
      · refine lv_iconst (v := (-1)) S.1 S.2.1 d_M_tell_6 (by decide) ?_
        refine lv_istore_n (lv' := [(3, .int (-1)), (2, .int 1), (0, .ref (ad 0)), (1, .int t)]) S.1 S.2.1 d_M_tell_7 rfl hl (by decide) rfl (fun ls hl => ?_)
        refine lv_iconst (v := 5) S.1 S.2.1 d_M_tell_8 (by decide) ?_
        refine lv_istore (lv' := [(4, .int 5), (3, .int (-1)), (2, .int 1), (0, .ref (ad 0)), (1, .int t)]) S.1 S.2.1 d_M_tell_9 hl (by decide) rfl (fun ls hl => ?_)
        have L2 : ∀ k2 : Nat, ∀ o : Option Nat, (mDuL v t k2 o = mDu v t Q6 ∧ k2 ≤ Q6 ∧ ∀ p, o = some p → p < Q6) → ∀ (H : Heap) (locs : List Loc) (ls : Array Slot), va_P D clsAll (uw 22 ad (mG ca ad v)) H → va_S (uA 22 ad s.heap.size) s.heap H locs → lv_has ls 6 [(4, .int (dI k2)), (3, .int (oI o)), (2, .int 1), (0, .ref (ad 0)), (1, .int t)] → uGv 5 123 D clsAll 22 ad (mG ca ad) (fun u => u = mNow w t F M Q6 K) [.ref (ad 0), .int t] p l e s m below meth c H locs 11 ls [] := by
          refine downTo ?_ ?_
          · intro o hIn H locs ls hP hS hl
            refine lv_iload S.1 S.2.1 d_M_tell_11 (lv_at hl 0 rfl) ?_
            refine lv_if_lt (tgt := 67) S.1 S.2.1 d_M_tell_13 (by decide) (fun c_2 => ?_) (fun c_2 => ?_)
            · refine lv_iload_n S.1 S.2.1 d_M_tell_67 rfl (lv_at hl 1 rfl) ?_
              rcases hD : o with _ | p
              · rw [hD] at hl
                have hD1 : mDu v t Q6 = none := by rw [← hIn.1, hD]; rfl
                refine lv_if_lt (tgt := 75) S.1 S.2.1 d_M_tell_68 (by decide) (fun c_3 => ?_) (fun c_3 => ?_)
                · refine lv_iconst (v := 0) S.1 S.2.1 d_M_tell_75 (by decide) ?_
                  refine lv_istore_n (lv' := [(2, .int 0), (4, .int (-1)), (3, .int (-1)), (0, .ref (ad 0)), (1, .int t)]) S.1 S.2.1 d_M_tell_76 rfl hl (by decide) rfl (fun ls hl => ?_)
                  refine lv_iload_n S.1 S.2.1 d_M_tell_77 rfl (lv_at hl 0 rfl) ?_
                  refine lv_if_eq (tgt := 128) S.1 S.2.1 d_M_tell_78 (by decide) (fun c_4 => ?_) (fun c_4 => ?_)
                  · refine lv_goto (tgt := 2) S.1 S.2.1 d_M_tell_128 (by decide) ?_
                    refine lv_iload_n S.1 S.2.1 d_M_tell_2 rfl (lv_at hl 0 rfl) ?_
                    refine lv_if_eq (tgt := 131) S.1 S.2.1 d_M_tell_3 (by decide) (fun c_5 => ?_) (fun c_5 => ?_)
                    · refine lv_aload_n S.1 S.2.1 d_M_tell_131 rfl (lv_at hl 3 rfl) ?_
                      refine lv_iload_n S.1 S.2.1 d_M_tell_132 rfl (lv_at hl 4 rfl) ?_
                      refine ur_put (k := 0) (v := .int t) (g' := mG ca ad (up2 v 22 0 t)) S hK hP (uD _ hJ) hS (by decide) mg_obj rfl (fun w h => hU w (in_M w h)) ty_M tyk_M nm_M 22 (by decide) (hU _ t3_182) rfl rfl rfl (Nat.le_of_ble_eq_true rfl) ms_now d_M_tell_133 (fun H locs hP hS => ?_)
                      exact uVret S hr hlk (up2 v 22 0 t) hP hS (by rw [← hI.2]; rfl) d_M_tell_136
                    · exact absurd (by decide) c_5
                  · exact absurd (by decide) c_4
                · exact absurd (by decide) c_3
              · rw [hD] at hl
                have hD1 : mDu v t Q6 = some p := by rw [← hIn.1, hD]; rfl
                have hp := mDu_lt _ hD1
                exact nomatch (show none = some p from by rw [← hD1]; exact hI.1.symm)
            · exact absurd (by decide) c_2
          · intro k2 ih2 o hIn H locs ls hP hS hl
            have hk2 := hIn.2.1
            refine lv_iload S.1 S.2.1 d_M_tell_11 (lv_at hl 0 rfl) ?_
            refine lv_if_lt (tgt := 67) S.1 S.2.1 d_M_tell_13 (by decide) (fun c_6 => ?_) (fun c_6 => ?_)
            · exact absurd c_6 (nI_pos (by omega))
            · refine lv_aload_n S.1 S.2.1 d_M_tell_16 rfl (lv_at hl 3 rfl) ?_
              refine ur_get (k := 0) (v := .ref (ad 16)) S hK hP (by decide) mg_obj rfl (fun w h => hU w (in_M w h)) 16 (by decide) (hU _ t3_176) rfl d_M_tell_17 ?_
              refine lv_iload S.1 S.2.1 d_M_tell_20 (lv_at hl 0 rfl) ?_
              refine ur_iald (k := 16) (n := 6) (f := (v 16)) (j := k2) S hK hP (by decide) 0 (mg_arr 16 (by decide)) rfl rfl (by omega) (by decide) d_M_tell_22 ?_
              refine lv_iconst (v := (-1)) S.1 S.2.1 d_M_tell_23 (by decide) ?_
              refine lv_icmp_eq (tgt := 61) S.1 S.2.1 d_M_tell_24 (by decide) (fun c_1 => ?_) (fun c_1 => ?_)
              · refine lv_iinc (v := dI k2) (lv' := [(4, .int (dI k2)), (3, .int (oI o)), (2, .int 1), (0, .ref (ad 0)), (1, .int t)]) S.1 S.2.1 d_M_tell_61 hl (k := 0) rfl (dI_dec k2) (by decide) rfl (fun ls hl => ?_)
                refine lv_goto (tgt := 11) S.1 S.2.1 d_M_tell_64 (by decide) ?_
                refine ih2 (mDuS v t k2 o) ⟨hIn.1, by omega, mDuS_lt (by omega) hIn.2.2⟩ _ _ ls hP hS (by rw [show mDuS v t k2 o = o from by unfold mDuS; rw [if_pos c_1]]; exact lv_sub hl [0, 1, 2, 3, 4] rfl)
              · refine lv_aload_n S.1 S.2.1 d_M_tell_27 rfl (lv_at hl 3 rfl) ?_
                refine ur_get (k := 0) (v := .ref (ad 16)) S hK hP (by decide) mg_obj rfl (fun w h => hU w (in_M w h)) 16 (by decide) (hU _ t3_176) rfl d_M_tell_28 ?_
                refine lv_iload S.1 S.2.1 d_M_tell_31 (lv_at hl 0 rfl) ?_
                refine ur_iald (k := 16) (n := 6) (f := (v 16)) (j := k2) S hK hP (by decide) 0 (mg_arr 16 (by decide)) rfl rfl (by omega) (by decide) d_M_tell_33 ?_
                refine lv_iload_n S.1 S.2.1 d_M_tell_34 rfl (lv_at hl 4 rfl) ?_
                refine lv_icmp_gt (tgt := 61) S.1 S.2.1 d_M_tell_35 (by decide) (fun c_2 => ?_) (fun c_2 => ?_)
                · refine lv_iinc (v := dI k2) (lv' := [(4, .int (dI k2)), (3, .int (oI o)), (2, .int 1), (0, .ref (ad 0)), (1, .int t)]) S.1 S.2.1 d_M_tell_61 hl (k := 0) rfl (dI_dec k2) (by decide) rfl (fun ls hl => ?_)
                  refine lv_goto (tgt := 11) S.1 S.2.1 d_M_tell_64 (by decide) ?_
                  refine ih2 (mDuS v t k2 o) ⟨hIn.1, by omega, mDuS_lt (by omega) hIn.2.2⟩ _ _ ls hP hS (by rw [show mDuS v t k2 o = o from by unfold mDuS; rw [if_neg c_1, if_pos c_2]]; exact lv_sub hl [0, 1, 2, 3, 4] rfl)
                · refine lv_iload_n S.1 S.2.1 d_M_tell_38 rfl (lv_at hl 1 rfl) ?_
                  rcases hX_7 : o with _ | p_8
                  · refine lv_if_lt (tgt := 58) S.1 S.2.1 d_M_tell_39 (by decide) (fun c_9 => ?_) (fun c_9 => ?_)
                    · refine lv_iload S.1 S.2.1 d_M_tell_58 (lv_at hl 0 rfl) ?_
                      refine lv_istore_n (lv' := [(3, .int (nI k2)), (4, .int (nI k2)), (2, .int 1), (0, .ref (ad 0)), (1, .int t)]) S.1 S.2.1 d_M_tell_60 rfl hl (by decide) rfl (fun ls hl => ?_)
                      refine lv_iinc (v := dI k2) (lv' := [(4, .int (dI k2)), (3, .int (nI k2)), (2, .int 1), (0, .ref (ad 0)), (1, .int t)]) S.1 S.2.1 d_M_tell_61 hl (k := 1) rfl (dI_dec k2) (by decide) rfl (fun ls hl => ?_)
                      refine lv_goto (tgt := 11) S.1 S.2.1 d_M_tell_64 (by decide) ?_
                      refine ih2 (mDuS v t k2 o) ⟨hIn.1, by omega, mDuS_lt (by omega) hIn.2.2⟩ _ _ ls hP hS (by rw [show mDuS v t k2 o = some k2 from by unfold mDuS; rw [if_neg c_1, if_neg c_2, hX_7]]; exact lv_sub hl [0, 1, 2, 3, 4] rfl)
                    · exact absurd (by decide) c_9
                  · have hp_8 := hIn.2.2 _ hX_7
                    refine lv_if_lt (tgt := 58) S.1 S.2.1 d_M_tell_39 (by decide) (fun c_10 => ?_) (fun c_10 => ?_)
                    · exact absurd c_10 (nI_pos (by omega))
                    · refine lv_aload_n S.1 S.2.1 d_M_tell_42 rfl (lv_at hl 3 rfl) ?_
                      refine ur_get (k := 0) (v := .ref (ad 16)) S hK hP (by decide) mg_obj rfl (fun w h => hU w (in_M w h)) 16 (by decide) (hU _ t3_176) rfl d_M_tell_43 ?_
                      refine lv_iload S.1 S.2.1 d_M_tell_46 (lv_at hl 0 rfl) ?_
                      refine ur_iald (k := 16) (n := 6) (f := (v 16)) (j := k2) S hK hP (by decide) 0 (mg_arr 16 (by decide)) rfl rfl (by omega) (by decide) d_M_tell_48 ?_
                      refine lv_aload_n S.1 S.2.1 d_M_tell_49 rfl (lv_at hl 3 rfl) ?_
                      refine ur_get (k := 0) (v := .ref (ad 16)) S hK hP (by decide) mg_obj rfl (fun w h => hU w (in_M w h)) 16 (by decide) (hU _ t3_176) rfl d_M_tell_50 ?_
                      refine lv_iload_n S.1 S.2.1 d_M_tell_53 rfl (lv_at hl 1 rfl) ?_
                      refine ur_iald (k := 16) (n := 6) (f := (v 16)) (j := p_8) S hK hP (by decide) 0 (mg_arr 16 (by decide)) rfl (by rw [hX_7]; rfl) (by omega) (by decide) d_M_tell_54 ?_
                      refine lv_icmp_gt (tgt := 61) S.1 S.2.1 d_M_tell_55 (by decide) (fun c_3 => ?_) (fun c_3 => ?_)
                      · refine lv_iinc (v := dI k2) (lv' := [(4, .int (dI k2)), (3, .int (oI o)), (2, .int 1), (0, .ref (ad 0)), (1, .int t)]) S.1 S.2.1 d_M_tell_61 hl (k := 0) rfl (dI_dec k2) (by decide) rfl (fun ls hl => ?_)
                        refine lv_goto (tgt := 11) S.1 S.2.1 d_M_tell_64 (by decide) ?_
                        refine ih2 (mDuS v t k2 o) ⟨hIn.1, by omega, mDuS_lt (by omega) hIn.2.2⟩ _ _ ls hP hS (by rw [show mDuS v t k2 o = some p_8 from by unfold mDuS; rw [if_neg c_1, if_neg c_2, hX_7]; show ite _ _ _ = _; rw [if_pos c_3]]; rw [hX_7] at hl; exact lv_sub hl [0, 1, 2, 3, 4] rfl)
                      · refine lv_iload S.1 S.2.1 d_M_tell_58 (lv_at hl 0 rfl) ?_
                        refine lv_istore_n (lv' := [(3, .int (nI k2)), (4, .int (nI k2)), (2, .int 1), (0, .ref (ad 0)), (1, .int t)]) S.1 S.2.1 d_M_tell_60 rfl hl (by decide) rfl (fun ls hl => ?_)
                        refine lv_iinc (v := dI k2) (lv' := [(4, .int (dI k2)), (3, .int (nI k2)), (2, .int 1), (0, .ref (ad 0)), (1, .int t)]) S.1 S.2.1 d_M_tell_61 hl (k := 1) rfl (dI_dec k2) (by decide) rfl (fun ls hl => ?_)
                        refine lv_goto (tgt := 11) S.1 S.2.1 d_M_tell_64 (by decide) ?_
                        refine ih2 (mDuS v t k2 o) ⟨hIn.1, by omega, mDuS_lt (by omega) hIn.2.2⟩ _ _ ls hP hS (by rw [show mDuS v t k2 o = some k2 from by unfold mDuS; rw [if_neg c_1, if_neg c_2, hX_7]; show ite _ _ _ = _; rw [if_neg c_3]]; exact lv_sub hl [0, 1, 2, 3, 4] rfl)
        exact L2 6 none ⟨by rw [← h6]; rfl, by omega, fun p h => nomatch h⟩ _ _ ls hP hS (lv_sub hl [0, 1, 2, 3, 4] rfl)
    · intro k ih v hI H locs ls hP hS hl
      refine lv_iload_n S.1 S.2.1 d_M_tell_2 rfl (lv_at hl 0 rfl) ?_
      refine lv_if_eq (tgt := 131) S.1 S.2.1 d_M_tell_3 (by decide) (fun c_11 => ?_) (fun c_11 => ?_)
      · exact absurd c_11 (by decide)
      · refine lv_iconst (v := (-1)) S.1 S.2.1 d_M_tell_6 (by decide) ?_
        refine lv_istore_n (lv' := [(3, .int (-1)), (2, .int 1), (0, .ref (ad 0)), (1, .int t)]) S.1 S.2.1 d_M_tell_7 rfl hl (by decide) rfl (fun ls hl => ?_)
        refine lv_iconst (v := 5) S.1 S.2.1 d_M_tell_8 (by decide) ?_
        refine lv_istore (lv' := [(4, .int 5), (3, .int (-1)), (2, .int 1), (0, .ref (ad 0)), (1, .int t)]) S.1 S.2.1 d_M_tell_9 hl (by decide) rfl (fun ls hl => ?_)
        have L2 : ∀ k2 : Nat, ∀ o : Option Nat, (mDuL v t k2 o = mDu v t Q6 ∧ k2 ≤ Q6 ∧ ∀ p, o = some p → p < Q6) → ∀ (H : Heap) (locs : List Loc) (ls : Array Slot), va_P D clsAll (uw 22 ad (mG ca ad v)) H → va_S (uA 22 ad s.heap.size) s.heap H locs → lv_has ls 6 [(4, .int (dI k2)), (3, .int (oI o)), (2, .int 1), (0, .ref (ad 0)), (1, .int t)] → uGv 5 123 D clsAll 22 ad (mG ca ad) (fun u => u = mNow w t F M Q6 K) [.ref (ad 0), .int t] p l e s m below meth c H locs 11 ls [] := by
          refine downTo ?_ ?_
          · intro o hIn H locs ls hP hS hl
            refine lv_iload S.1 S.2.1 d_M_tell_11 (lv_at hl 0 rfl) ?_
            refine lv_if_lt (tgt := 67) S.1 S.2.1 d_M_tell_13 (by decide) (fun c_12 => ?_) (fun c_12 => ?_)
            · refine lv_iload_n S.1 S.2.1 d_M_tell_67 rfl (lv_at hl 1 rfl) ?_
              rcases hD : o with _ | p
              · rw [hD] at hl
                have hD1 : mDu v t Q6 = none := by rw [← hIn.1, hD]; rfl
                refine lv_if_lt (tgt := 75) S.1 S.2.1 d_M_tell_68 (by decide) (fun c_13 => ?_) (fun c_13 => ?_)
                · refine lv_iconst (v := 0) S.1 S.2.1 d_M_tell_75 (by decide) ?_
                  refine lv_istore_n (lv' := [(2, .int 0), (4, .int (-1)), (3, .int (-1)), (0, .ref (ad 0)), (1, .int t)]) S.1 S.2.1 d_M_tell_76 rfl hl (by decide) rfl (fun ls hl => ?_)
                  refine lv_iload_n S.1 S.2.1 d_M_tell_77 rfl (lv_at hl 0 rfl) ?_
                  refine lv_if_eq (tgt := 128) S.1 S.2.1 d_M_tell_78 (by decide) (fun c_14 => ?_) (fun c_14 => ?_)
                  · refine lv_goto (tgt := 2) S.1 S.2.1 d_M_tell_128 (by decide) ?_
                    refine lv_iload_n S.1 S.2.1 d_M_tell_2 rfl (lv_at hl 0 rfl) ?_
                    refine lv_if_eq (tgt := 131) S.1 S.2.1 d_M_tell_3 (by decide) (fun c_15 => ?_) (fun c_15 => ?_)
                    · refine lv_aload_n S.1 S.2.1 d_M_tell_131 rfl (lv_at hl 3 rfl) ?_
                      refine lv_iload_n S.1 S.2.1 d_M_tell_132 rfl (lv_at hl 4 rfl) ?_
                      refine ur_put (k := 0) (v := .int t) (g' := mG ca ad (up2 v 22 0 t)) S hK hP (uD _ hJ) hS (by decide) mg_obj rfl (fun w h => hU w (in_M w h)) ty_M tyk_M nm_M 22 (by decide) (hU _ t3_182) rfl rfl rfl (Nat.le_of_ble_eq_true rfl) ms_now d_M_tell_133 (fun H locs hP hS => ?_)
                      exact uVret S hr hlk (up2 v 22 0 t) hP hS (by rw [← hI.2]; unfold mNow; rw [mTl, hD1]) d_M_tell_136
                    · exact absurd (by decide) c_15
                  · exact absurd (by decide) c_14
                · exact absurd (by decide) c_13
              · rw [hD] at hl
                have hD1 : mDu v t Q6 = some p := by rw [← hIn.1, hD]; rfl
                have hp := mDu_lt _ hD1
                refine lv_if_lt (tgt := 75) S.1 S.2.1 d_M_tell_68 (by decide) (fun c_16 => ?_) (fun c_16 => ?_)
                · exact absurd c_16 (nI_pos (by omega))
                · refine lv_iconst (v := 1) S.1 S.2.1 d_M_tell_71 (by decide) ?_
                  refine lv_goto (tgt := 76) S.1 S.2.1 d_M_tell_72 (by decide) ?_
                  refine lv_istore_n (lv' := [(2, .int 1), (4, .int (-1)), (3, .int (nI p)), (0, .ref (ad 0)), (1, .int t)]) S.1 S.2.1 d_M_tell_76 rfl hl (by decide) rfl (fun ls hl => ?_)
                  refine lv_iload_n S.1 S.2.1 d_M_tell_77 rfl (lv_at hl 0 rfl) ?_
                  refine lv_if_eq (tgt := 128) S.1 S.2.1 d_M_tell_78 (by decide) (fun c_17 => ?_) (fun c_17 => ?_)
                  · exact absurd c_17 (by decide)
                  · refine lv_aload_n S.1 S.2.1 d_M_tell_81 rfl (lv_at hl 3 rfl) ?_
                    refine ur_get (k := 0) (v := .ref (ad 16)) S hK hP (by decide) mg_obj rfl (fun w h => hU w (in_M w h)) 16 (by decide) (hU _ t3_176) rfl d_M_tell_82 ?_
                    refine lv_iload_n S.1 S.2.1 d_M_tell_85 rfl (lv_at hl 2 rfl) ?_
                    refine ur_iald (k := 16) (n := 6) (f := (v 16)) (j := p) S hK hP (by decide) 0 (mg_arr 16 (by decide)) rfl rfl (by omega) (by decide) d_M_tell_86 ?_
                    refine lv_istore (lv' := [(4, .int ((v 16) p)), (2, .int 1), (3, .int (nI p)), (0, .ref (ad 0)), (1, .int t)]) S.1 S.2.1 d_M_tell_87 hl (by decide) rfl (fun ls hl => ?_)
                    refine lv_aload_n S.1 S.2.1 d_M_tell_89 rfl (lv_at hl 3 rfl) ?_
                    refine lv_aload_n S.1 S.2.1 d_M_tell_90 rfl (lv_at hl 3 rfl) ?_
                    refine ur_get (k := 0) (v := .ref (ad 12)) S hK hP (by decide) mg_obj rfl (fun w h => hU w (in_M w h)) 12 (by decide) (hU _ t3_172) rfl d_M_tell_91 ?_
                    refine lv_iload_n S.1 S.2.1 d_M_tell_94 rfl (lv_at hl 2 rfl) ?_
                    refine ur_iald (k := 12) (n := 6) (f := (v 12)) (j := p) S hK hP (by decide) 0 (mg_arr 12 (by decide)) rfl rfl (by omega) (by decide) d_M_tell_95 ?_
                    refine lv_aload_n S.1 S.2.1 d_M_tell_96 rfl (lv_at hl 3 rfl) ?_
                    refine ur_get (k := 0) (v := .ref (ad 14)) S hK hP (by decide) mg_obj rfl (fun w h => hU w (in_M w h)) 14 (by decide) (hU _ t3_174) rfl d_M_tell_97 ?_
                    refine lv_iload_n S.1 S.2.1 d_M_tell_100 rfl (lv_at hl 2 rfl) ?_
                    refine ur_iald (k := 14) (n := 6) (f := (v 14)) (j := p) S hK hP (by decide) 0 (mg_arr 14 (by decide)) rfl rfl (by omega) (by decide) d_M_tell_101 ?_
                    refine uVi (n := 2) (b := 0) (As := [.int ((v 12) p), .int ((v 14) p)]) (rest := []) S hK hN hP hS (c_M_above hJ v F hF ((v 12) p) ((v 14) p)) ⟨hU, t4_35, t4_32, t1_8, by decide +kernel, by decide, by decide⟩ t4_34 tp_16 (by decide) mg_obj rfl rfl rfl hl.1 rfl (Nat.le_of_ble_eq_true rfl) d_M_tell_102 ⟨Nat.le_of_ble_eq_true rfl, Nat.le_of_ble_eq_true rfl⟩ (fun r u H locs hp hP hS => ?_)
                    obtain ⟨hu, rfl⟩ := hp
                    rw [hu] at hP
                    rcases hX_18 : mAbv v ((v 12) p) ((v 14) p) F with _ | p_19
                    · refine lv_istore (lv' := [(5, .int (-1)), (4, .int ((v 16) p)), (2, .int 1), (3, .int (nI p)), (0, .ref (ad 0)), (1, .int t)]) S.1 S.2.1 d_M_tell_105 hl (by decide) rfl (fun ls hl => ?_)
                      refine lv_aload_n S.1 S.2.1 d_M_tell_107 rfl (lv_at hl 4 rfl) ?_
                      refine ur_get (k := 0) (v := .ref (ad 16)) S hK hP (by decide) mg_obj rfl (fun w h => hU w (in_M w h)) 16 (by decide) (hU _ t3_176) rfl d_M_tell_108 ?_
                      refine lv_iload_n S.1 S.2.1 d_M_tell_111 rfl (lv_at hl 3 rfl) ?_
                      refine lv_iconst (v := (-1)) S.1 S.2.1 d_M_tell_112 (by decide) ?_
                      refine ur_iast (k := 16) (n := 6) (f := (v 16)) (j := p) (g' := mG ca ad (up2 v 16 p (-1))) S hK hP (uD _ hJ) hS (by decide) 0 (mg_arr 16 (by decide)) rfl rfl (by omega) (by decide) (ms_arr 16 (by decide) (by decide) (by decide)) d_M_tell_113 (fun H locs hP hS => ?_)
                      refine lv_iload S.1 S.2.1 d_M_tell_114 (lv_at hl 0 rfl) ?_
                      refine lv_if_lt (tgt := 128) S.1 S.2.1 d_M_tell_116 (by decide) (fun c_20 => ?_) (fun c_20 => ?_)
                      · refine lv_goto (tgt := 2) S.1 S.2.1 d_M_tell_128 (by decide) ?_
                        have hI3 := hI.1; rw [mTok, hD1] at hI3
                        have hI4 := hI.2; unfold mNow at hI4; rw [mTl, hD1] at hI4
                        exact ih _ ⟨hI3.2.2, hI4⟩ _ _ ls (by rw [show mFol v p F M = (up2 v 16 p (-1)) from by unfold mFol; rw [hX_18]]; exact hP) hS (lv_sub hl [2, 4, 5] rfl)
                      · exact absurd (by decide) c_20
                    · have hp_19 := mAbv_lt _ _ hX_18
                      refine lv_istore (lv' := [(5, .int (nI p_19)), (4, .int ((v 16) p)), (2, .int 1), (3, .int (nI p)), (0, .ref (ad 0)), (1, .int t)]) S.1 S.2.1 d_M_tell_105 hl (by decide) rfl (fun ls hl => ?_)
                      refine lv_aload_n S.1 S.2.1 d_M_tell_107 rfl (lv_at hl 4 rfl) ?_
                      refine ur_get (k := 0) (v := .ref (ad 16)) S hK hP (by decide) mg_obj rfl (fun w h => hU w (in_M w h)) 16 (by decide) (hU _ t3_176) rfl d_M_tell_108 ?_
                      refine lv_iload_n S.1 S.2.1 d_M_tell_111 rfl (lv_at hl 3 rfl) ?_
                      refine lv_iconst (v := (-1)) S.1 S.2.1 d_M_tell_112 (by decide) ?_
                      refine ur_iast (k := 16) (n := 6) (f := (v 16)) (j := p) (g' := mG ca ad (up2 v 16 p (-1))) S hK hP (uD _ hJ) hS (by decide) 0 (mg_arr 16 (by decide)) rfl rfl (by omega) (by decide) (ms_arr 16 (by decide) (by decide) (by decide)) d_M_tell_113 (fun H locs hP hS => ?_)
                      refine lv_iload S.1 S.2.1 d_M_tell_114 (lv_at hl 0 rfl) ?_
                      refine lv_if_lt (tgt := 128) S.1 S.2.1 d_M_tell_116 (by decide) (fun c_21 => ?_) (fun c_21 => ?_)
                      · exact absurd c_21 (nI_pos (by omega))
                      · refine lv_aload_n S.1 S.2.1 d_M_tell_119 rfl (lv_at hl 4 rfl) ?_
                        refine lv_iload_n S.1 S.2.1 d_M_tell_120 rfl (lv_at hl 3 rfl) ?_
                        refine lv_iload S.1 S.2.1 d_M_tell_121 (lv_at hl 0 rfl) ?_
                        refine lv_iload S.1 S.2.1 d_M_tell_123 (lv_at hl 1 rfl) ?_
                        refine uVv (n := 3) (b := 0) (As := [.int (nI p), .int (nI p_19), .int ((v 16) p)]) (rest := []) S hK hN hP hS (c_M_start hJ (up2 v 16 p (-1)) M hM F hF p p_19 (by omega) (by omega) ((v 16) p) (mV_up (by decide) (by have h7 := hI.1; rw [mTok, hD1] at h7; exact h7.1)) (by have h7 := hI.1; rw [mTok, hD1] at h7; intro j ch hj hch; rw [up2_f (by decide)]; exact h7.2.1 j ch hj hch)) ⟨hU, t4_154, t4_151, t1_8, by decide +kernel, by decide, by decide⟩ t4_153 tp_34 (by decide) mg_obj rfl rfl rfl hl.1 rfl (Nat.le_of_ble_eq_true rfl) d_M_tell_125 ⟨Nat.le_of_ble_eq_true rfl, Nat.le_of_ble_eq_true rfl⟩ (fun u H locs hp hP hS => ?_)
                        rw [hp] at hP
                        refine lv_goto (tgt := 2) S.1 S.2.1 d_M_tell_128 (by decide) ?_
                        have hI3 := hI.1; rw [mTok, hD1] at hI3
                        have hI4 := hI.2; unfold mNow at hI4; rw [mTl, hD1] at hI4
                        exact ih _ ⟨hI3.2.2, hI4⟩ _ _ ls (by rw [show mFol v p F M = (mStart (up2 v 16 p (-1)) p p_19 ((v 16) p) F M) from by unfold mFol; rw [hX_18]]; exact hP) hS (lv_sub hl [2, 4, 5] rfl)
            · exact absurd (by decide) c_12
          · intro k2 ih2 o hIn H locs ls hP hS hl
            have hk2 := hIn.2.1
            refine lv_iload S.1 S.2.1 d_M_tell_11 (lv_at hl 0 rfl) ?_
            refine lv_if_lt (tgt := 67) S.1 S.2.1 d_M_tell_13 (by decide) (fun c_22 => ?_) (fun c_22 => ?_)
            · exact absurd c_22 (nI_pos (by omega))
            · refine lv_aload_n S.1 S.2.1 d_M_tell_16 rfl (lv_at hl 3 rfl) ?_
              refine ur_get (k := 0) (v := .ref (ad 16)) S hK hP (by decide) mg_obj rfl (fun w h => hU w (in_M w h)) 16 (by decide) (hU _ t3_176) rfl d_M_tell_17 ?_
              refine lv_iload S.1 S.2.1 d_M_tell_20 (lv_at hl 0 rfl) ?_
              refine ur_iald (k := 16) (n := 6) (f := (v 16)) (j := k2) S hK hP (by decide) 0 (mg_arr 16 (by decide)) rfl rfl (by omega) (by decide) d_M_tell_22 ?_
              refine lv_iconst (v := (-1)) S.1 S.2.1 d_M_tell_23 (by decide) ?_
              refine lv_icmp_eq (tgt := 61) S.1 S.2.1 d_M_tell_24 (by decide) (fun c_1 => ?_) (fun c_1 => ?_)
              · refine lv_iinc (v := dI k2) (lv' := [(4, .int (dI k2)), (3, .int (oI o)), (2, .int 1), (0, .ref (ad 0)), (1, .int t)]) S.1 S.2.1 d_M_tell_61 hl (k := 0) rfl (dI_dec k2) (by decide) rfl (fun ls hl => ?_)
                refine lv_goto (tgt := 11) S.1 S.2.1 d_M_tell_64 (by decide) ?_
                refine ih2 (mDuS v t k2 o) ⟨hIn.1, by omega, mDuS_lt (by omega) hIn.2.2⟩ _ _ ls hP hS (by rw [show mDuS v t k2 o = o from by unfold mDuS; rw [if_pos c_1]]; exact lv_sub hl [0, 1, 2, 3, 4] rfl)
              · refine lv_aload_n S.1 S.2.1 d_M_tell_27 rfl (lv_at hl 3 rfl) ?_
                refine ur_get (k := 0) (v := .ref (ad 16)) S hK hP (by decide) mg_obj rfl (fun w h => hU w (in_M w h)) 16 (by decide) (hU _ t3_176) rfl d_M_tell_28 ?_
                refine lv_iload S.1 S.2.1 d_M_tell_31 (lv_at hl 0 rfl) ?_
                refine ur_iald (k := 16) (n := 6) (f := (v 16)) (j := k2) S hK hP (by decide) 0 (mg_arr 16 (by decide)) rfl rfl (by omega) (by decide) d_M_tell_33 ?_
                refine lv_iload_n S.1 S.2.1 d_M_tell_34 rfl (lv_at hl 4 rfl) ?_
                refine lv_icmp_gt (tgt := 61) S.1 S.2.1 d_M_tell_35 (by decide) (fun c_2 => ?_) (fun c_2 => ?_)
                · refine lv_iinc (v := dI k2) (lv' := [(4, .int (dI k2)), (3, .int (oI o)), (2, .int 1), (0, .ref (ad 0)), (1, .int t)]) S.1 S.2.1 d_M_tell_61 hl (k := 0) rfl (dI_dec k2) (by decide) rfl (fun ls hl => ?_)
                  refine lv_goto (tgt := 11) S.1 S.2.1 d_M_tell_64 (by decide) ?_
                  refine ih2 (mDuS v t k2 o) ⟨hIn.1, by omega, mDuS_lt (by omega) hIn.2.2⟩ _ _ ls hP hS (by rw [show mDuS v t k2 o = o from by unfold mDuS; rw [if_neg c_1, if_pos c_2]]; exact lv_sub hl [0, 1, 2, 3, 4] rfl)
                · refine lv_iload_n S.1 S.2.1 d_M_tell_38 rfl (lv_at hl 1 rfl) ?_
                  rcases hX_23 : o with _ | p_24
                  · refine lv_if_lt (tgt := 58) S.1 S.2.1 d_M_tell_39 (by decide) (fun c_25 => ?_) (fun c_25 => ?_)
                    · refine lv_iload S.1 S.2.1 d_M_tell_58 (lv_at hl 0 rfl) ?_
                      refine lv_istore_n (lv' := [(3, .int (nI k2)), (4, .int (nI k2)), (2, .int 1), (0, .ref (ad 0)), (1, .int t)]) S.1 S.2.1 d_M_tell_60 rfl hl (by decide) rfl (fun ls hl => ?_)
                      refine lv_iinc (v := dI k2) (lv' := [(4, .int (dI k2)), (3, .int (nI k2)), (2, .int 1), (0, .ref (ad 0)), (1, .int t)]) S.1 S.2.1 d_M_tell_61 hl (k := 1) rfl (dI_dec k2) (by decide) rfl (fun ls hl => ?_)
                      refine lv_goto (tgt := 11) S.1 S.2.1 d_M_tell_64 (by decide) ?_
                      refine ih2 (mDuS v t k2 o) ⟨hIn.1, by omega, mDuS_lt (by omega) hIn.2.2⟩ _ _ ls hP hS (by rw [show mDuS v t k2 o = some k2 from by unfold mDuS; rw [if_neg c_1, if_neg c_2, hX_23]]; exact lv_sub hl [0, 1, 2, 3, 4] rfl)
                    · exact absurd (by decide) c_25
                  · have hp_24 := hIn.2.2 _ hX_23
                    refine lv_if_lt (tgt := 58) S.1 S.2.1 d_M_tell_39 (by decide) (fun c_26 => ?_) (fun c_26 => ?_)
                    · exact absurd c_26 (nI_pos (by omega))
                    · refine lv_aload_n S.1 S.2.1 d_M_tell_42 rfl (lv_at hl 3 rfl) ?_
                      refine ur_get (k := 0) (v := .ref (ad 16)) S hK hP (by decide) mg_obj rfl (fun w h => hU w (in_M w h)) 16 (by decide) (hU _ t3_176) rfl d_M_tell_43 ?_
                      refine lv_iload S.1 S.2.1 d_M_tell_46 (lv_at hl 0 rfl) ?_
                      refine ur_iald (k := 16) (n := 6) (f := (v 16)) (j := k2) S hK hP (by decide) 0 (mg_arr 16 (by decide)) rfl rfl (by omega) (by decide) d_M_tell_48 ?_
                      refine lv_aload_n S.1 S.2.1 d_M_tell_49 rfl (lv_at hl 3 rfl) ?_
                      refine ur_get (k := 0) (v := .ref (ad 16)) S hK hP (by decide) mg_obj rfl (fun w h => hU w (in_M w h)) 16 (by decide) (hU _ t3_176) rfl d_M_tell_50 ?_
                      refine lv_iload_n S.1 S.2.1 d_M_tell_53 rfl (lv_at hl 1 rfl) ?_
                      refine ur_iald (k := 16) (n := 6) (f := (v 16)) (j := p_24) S hK hP (by decide) 0 (mg_arr 16 (by decide)) rfl (by rw [hX_23]; rfl) (by omega) (by decide) d_M_tell_54 ?_
                      refine lv_icmp_gt (tgt := 61) S.1 S.2.1 d_M_tell_55 (by decide) (fun c_3 => ?_) (fun c_3 => ?_)
                      · refine lv_iinc (v := dI k2) (lv' := [(4, .int (dI k2)), (3, .int (oI o)), (2, .int 1), (0, .ref (ad 0)), (1, .int t)]) S.1 S.2.1 d_M_tell_61 hl (k := 0) rfl (dI_dec k2) (by decide) rfl (fun ls hl => ?_)
                        refine lv_goto (tgt := 11) S.1 S.2.1 d_M_tell_64 (by decide) ?_
                        refine ih2 (mDuS v t k2 o) ⟨hIn.1, by omega, mDuS_lt (by omega) hIn.2.2⟩ _ _ ls hP hS (by rw [show mDuS v t k2 o = some p_24 from by unfold mDuS; rw [if_neg c_1, if_neg c_2, hX_23]; show ite _ _ _ = _; rw [if_pos c_3]]; rw [hX_23] at hl; exact lv_sub hl [0, 1, 2, 3, 4] rfl)
                      · refine lv_iload S.1 S.2.1 d_M_tell_58 (lv_at hl 0 rfl) ?_
                        refine lv_istore_n (lv' := [(3, .int (nI k2)), (4, .int (nI k2)), (2, .int 1), (0, .ref (ad 0)), (1, .int t)]) S.1 S.2.1 d_M_tell_60 rfl hl (by decide) rfl (fun ls hl => ?_)
                        refine lv_iinc (v := dI k2) (lv' := [(4, .int (dI k2)), (3, .int (nI k2)), (2, .int 1), (0, .ref (ad 0)), (1, .int t)]) S.1 S.2.1 d_M_tell_61 hl (k := 1) rfl (dI_dec k2) (by decide) rfl (fun ls hl => ?_)
                        refine lv_goto (tgt := 11) S.1 S.2.1 d_M_tell_64 (by decide) ?_
                        refine ih2 (mDuS v t k2 o) ⟨hIn.1, by omega, mDuS_lt (by omega) hIn.2.2⟩ _ _ ls hP hS (by rw [show mDuS v t k2 o = some k2 from by unfold mDuS; rw [if_neg c_1, if_neg c_2, hX_23]; show ite _ _ _ = _; rw [if_neg c_3]]; exact lv_sub hl [0, 1, 2, 3, 4] rfl)
        exact L2 6 none ⟨by rw [← h6]; rfl, by omega, fun p h => nomatch h⟩ _ _ ls hP hS (lv_sub hl [0, 1, 2, 3, 4] rfl)
  exact L K w ⟨hT, rfl⟩ _ _ ls hP hS (lv_sub hl [0, 1, 2] rfl)
