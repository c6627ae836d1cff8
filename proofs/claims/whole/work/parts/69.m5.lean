/-! merged, start, tell (printed by wip/gen/gen_m4.py) -/
set_option maxRecDepth 100000 in
set_option maxHeartbeats 4000000 in
theorem c_M_merged {l : Launch} {D : va_G} {ca : Nat → ClassId} {ad : Nat → Nat} (hJ : uJ 22 ad) (w : Nat → Nat → Int32) (Q6 : Nat) (h6 : Q6 = 6) (ho : mO w (w 22 0)) (ch : Nat) (hch : ch < 64) : uMi l y_M_merged b_M_merged 7 (some .int) 1 24 D clsAll (tysAll ca) 22 ad (mG ca ad) w [.ref (ad 0), .int (nI ch)] (fun r u => u = w ∧ r = mMg w ch Q6) := by
  refine uStart (by decide) (Nat.le_of_ble_eq_true rfl) ?_
  intro p e s m below meth c ls S hr hlk hK hN hP hl
  have hU : ∀ w ∈ uWS, w ∈ (Cond.code y_M_merged b_M_merged 7 (some .int) :: uWS) := fun w h => List.mem_cons_of_mem _ h
  have hS : va_S (uA 22 ad s.heap.size) s.heap s.heap [] := va_S.rf
  have hl : lv_has ls 7 [(0, .ref (ad 0)), (1, .int (nI ch))] := hl
  refine lv_iconst (v := 0) S.1 S.2.1 d_M_merged_0 (by decide) ?_
  refine lv_istore_n (lv' := [(2, .int 0), (0, .ref (ad 0)), (1, .int (nI ch))]) S.1 S.2.1 d_M_merged_1 rfl hl (by decide) rfl (fun ls hl => ?_)
  refine lv_iconst (v := (-1)) S.1 S.2.1 d_M_merged_2 (by decide) ?_
  refine lv_istore_n (lv' := [(3, .int (-1)), (2, .int 0), (0, .ref (ad 0)), (1, .int (nI ch))]) S.1 S.2.1 d_M_merged_3 rfl hl (by decide) rfl (fun ls hl => ?_)
  refine lv_iconst (v := 0) S.1 S.2.1 d_M_merged_4 (by decide) ?_
  refine lv_istore (lv' := [(4, .int 0), (3, .int (-1)), (2, .int 0), (0, .ref (ad 0)), (1, .int (nI ch))]) S.1 S.2.1 d_M_merged_5 hl (by decide) rfl (fun ls hl => ?_)
  have L : ∀ i, i ≤ Q6 → ∀ (H : Heap) (locs : List Loc) (ls : Array Slot), va_P D clsAll (uw 22 ad (mG ca ad w)) H → va_S (uA 22 ad s.heap.size) s.heap H locs → lv_has ls 7 [(4, .int (nI i)), (3, .int (oI (mLs w ch i))), (2, .int (mMx w ch i)), (0, .ref (ad 0)), (1, .int (nI ch))] → uGi 1 24 D clsAll 22 ad (mG ca ad) (fun r u => u = w ∧ r = mMg w ch Q6) [.ref (ad 0), .int (nI ch)] p l e s m below meth c H locs 7 ls [] := by
    refine upTo Q6 ?_ ?_
    · intro H locs ls hP hS hl
      refine lv_iload S.1 S.2.1 d_M_merged_7 (lv_at hl 0 rfl) ?_
      refine lv_bipush (v := 6) S.1 S.2.1 d_M_merged_9 (by decide) ?_
      refine lv_icmp_ge (tgt := 105) S.1 S.2.1 d_M_merged_11 (by decide) (fun c_h => ?_) (fun c_h => ?_)
      · refine lv_aload_n S.1 S.2.1 d_M_merged_105 rfl (lv_at hl 3 rfl) ?_
        refine ur_get (k := 0) (v := .ref (ad 1)) S hK hP (by decide) mg_obj rfl (fun w h => hU w (in_M w h)) 1 (by decide) (hU _ t3_161) rfl d_M_merged_106 ?_
        refine lv_iload_n S.1 S.2.1 d_M_merged_109 rfl (lv_at hl 4 rfl) ?_
        refine ur_zald (k := 1) (n := 64) (f := (w 1)) (j := ch) S hK hP (by decide) 1 (mg_arr 1 (by decide)) rfl rfl hch (by decide) d_M_merged_110 ?_
        refine lv_if_ne (tgt := 118) S.1 S.2.1 d_M_merged_111 (by decide) (fun c_z => ?_) (fun c_z => ?_)
        · refine lv_iload_n S.1 S.2.1 d_M_merged_118 rfl (lv_at hl 1 rfl) ?_
          rcases hX_1 : mLs w ch Q6 with _ | p_2
          · rw [hX_1] at hl
            refine lv_if_ge (tgt := 126) S.1 S.2.1 d_M_merged_119 (by decide) (fun c_3 => ?_) (fun c_3 => ?_)
            · exact absurd c_3 (by decide)
            · refine lv_iconst (v := 0) S.1 S.2.1 d_M_merged_122 (by decide) ?_
              refine lv_goto (tgt := 136) S.1 S.2.1 d_M_merged_123 (by decide) ?_
              exact uIret S hr hlk w hP hS (by refine ⟨rfl, ?_⟩; rw [mMg, if_neg c_z, hX_1]; rfl) d_M_merged_136
          · have hp_2 := mLs_lt _ _ hX_1
            rw [hX_1] at hl
            refine lv_if_ge (tgt := 126) S.1 S.2.1 d_M_merged_119 (by decide) (fun c_4 => ?_) (fun c_4 => ?_)
            · refine lv_aload_n S.1 S.2.1 d_M_merged_126 rfl (lv_at hl 3 rfl) ?_
              refine lv_iload_n S.1 S.2.1 d_M_merged_127 rfl (lv_at hl 1 rfl) ?_
              refine lv_iload_n S.1 S.2.1 d_M_merged_128 rfl (lv_at hl 4 rfl) ?_
              refine lv_aload_n S.1 S.2.1 d_M_merged_129 rfl (lv_at hl 3 rfl) ?_
              refine ur_get (k := 0) (v := .int (w 22 0)) S hK hP (by decide) mg_obj rfl (fun w h => hU w (in_M w h)) 22 (by decide) (hU _ t3_182) rfl d_M_merged_130 ?_
              refine uVi (n := 3) (b := 0) (As := [.int (nI p_2), .int (nI ch), .int (w 22 0)]) (rest := []) S hK hN hP hS (c_M_levelAt hJ w p_2 ch (by omega) hch (w 22 0) (ho _ _ (by omega) hch)) ⟨hU, t4_158, t4_155, t1_8, by decide +kernel, by decide, by decide⟩ t4_157 tp_35 (by decide) mg_obj rfl rfl rfl hl.1 rfl (Nat.le_of_ble_eq_true rfl) d_M_merged_133 ⟨Nat.le_of_ble_eq_true rfl, Nat.le_of_ble_eq_true rfl⟩ (fun r u H locs hp hP hS => ?_)
              obtain ⟨hu, rfl⟩ := hp
              rw [hu] at hP
              exact uIret S hr hlk w hP hS (by refine ⟨rfl, ?_⟩; rw [mMg, if_neg c_z, hX_1]; rfl) d_M_merged_136
            · exact absurd (nI_pos' (by omega)) c_4
        · refine lv_iload_n S.1 S.2.1 d_M_merged_114 rfl (lv_at hl 2 rfl) ?_
          refine lv_goto (tgt := 136) S.1 S.2.1 d_M_merged_115 (by decide) ?_
          exact uIret S hr hlk w hP hS (by refine ⟨rfl, ?_⟩; rw [mMg, if_pos c_z]) d_M_merged_136
      · exact absurd (by subst h6; exact nI_le (Nat.le_refl 6) (by decide)) c_h
    · intro i hi ih H locs ls hP hS hl
      refine lv_iload S.1 S.2.1 d_M_merged_7 (lv_at hl 0 rfl) ?_
      refine lv_bipush (v := 6) S.1 S.2.1 d_M_merged_9 (by decide) ?_
      refine lv_icmp_ge (tgt := 105) S.1 S.2.1 d_M_merged_11 (by decide) (fun c_h => ?_) (fun c_h => ?_)
      · exact absurd c_h (nI_ge (b := 6) (by omega) (by decide))
      · refine lv_aload_n S.1 S.2.1 d_M_merged_14 rfl (lv_at hl 3 rfl) ?_
        refine lv_iload S.1 S.2.1 d_M_merged_15 (lv_at hl 0 rfl) ?_
        refine lv_iload_n S.1 S.2.1 d_M_merged_17 rfl (lv_at hl 4 rfl) ?_
        refine lv_aload_n S.1 S.2.1 d_M_merged_18 rfl (lv_at hl 3 rfl) ?_
        refine ur_get (k := 0) (v := .int (w 22 0)) S hK hP (by decide) mg_obj rfl (fun w h => hU w (in_M w h)) 22 (by decide) (hU _ t3_182) rfl d_M_merged_19 ?_
        refine uVi (n := 3) (b := 0) (As := [.int (nI i), .int (nI ch), .int (w 22 0)]) (rest := []) S hK hN hP hS (c_M_levelAt hJ w i ch (by omega) hch (w 22 0) (ho _ _ (by omega) hch)) ⟨hU, t4_158, t4_155, t1_8, by decide +kernel, by decide, by decide⟩ t4_157 tp_35 (by decide) mg_obj rfl rfl rfl hl.1 rfl (Nat.le_of_ble_eq_true rfl) d_M_merged_22 ⟨Nat.le_of_ble_eq_true rfl, Nat.le_of_ble_eq_true rfl⟩ (fun r u H locs hp hP hS => ?_)
        obtain ⟨hu, rfl⟩ := hp
        rw [hu] at hP
        refine lv_aload_n S.1 S.2.1 d_M_merged_25 rfl (lv_at hl 3 rfl) ?_
        refine ur_get (k := 0) (v := .ref (ad 13)) S hK hP (by decide) mg_obj rfl (fun w h => hU w (in_M w h)) 13 (by decide) (hU _ t3_173) rfl d_M_merged_26 ?_
        refine lv_iload S.1 S.2.1 d_M_merged_29 (lv_at hl 0 rfl) ?_
        refine ur_iald (k := 13) (n := 6) (f := (w 13)) (j := i) S hK hP (by decide) 0 (mg_arr 13 (by decide)) rfl rfl (by omega) (by decide) d_M_merged_31 ?_
        refine lv_imul S.1 S.2.1 d_M_merged_32 ?_
        refine lv_sipush (v := 255) S.1 S.2.1 d_M_merged_33 (by decide) ?_
        refine lv_idiv S.1 S.2.1 d_M_merged_36 (by decide) ?_
        refine lv_istore (lv' := [(5, .int (((mAt w (64 * i + ch) (w 22 0)) * ((w 13) i)) / 255)), (4, .int (nI i)), (3, .int (oI (mLs w ch i))), (2, .int (mMx w ch i)), (0, .ref (ad 0)), (1, .int (nI ch))]) S.1 S.2.1 d_M_merged_37 hl (by decide) rfl (fun ls hl => ?_)
        refine lv_iload S.1 S.2.1 d_M_merged_39 (lv_at hl 0 rfl) ?_
        refine lv_iload_n S.1 S.2.1 d_M_merged_41 rfl (lv_at hl 3 rfl) ?_
        refine lv_icmp_le (tgt := 50) S.1 S.2.1 d_M_merged_42 (by decide) (fun c_l => ?_) (fun c_l => ?_)
        · refine lv_iload_n S.1 S.2.1 d_M_merged_50 rfl (lv_at hl 3 rfl) ?_
          refine lv_istore_n (lv' := [(2, .int (mMx w ch i)), (5, .int (((mAt w (64 * i + ch) (w 22 0)) * ((w 13) i)) / 255)), (4, .int (nI i)), (3, .int (oI (mLs w ch i))), (0, .ref (ad 0)), (1, .int (nI ch))]) S.1 S.2.1 d_M_merged_51 rfl hl (by decide) rfl (fun ls hl => ?_)
          refine lv_aload_n S.1 S.2.1 d_M_merged_52 rfl (lv_at hl 4 rfl) ?_
          refine ur_get (k := 0) (v := .ref (ad 21)) S hK hP (by decide) mg_obj rfl (fun w h => hU w (in_M w h)) 21 (by decide) (hU _ t3_181) rfl d_M_merged_53 ?_
          refine lv_bipush (v := 64) S.1 S.2.1 d_M_merged_56 (by decide) ?_
          refine lv_iload S.1 S.2.1 d_M_merged_58 (lv_at hl 2 rfl) ?_
          refine lv_imul S.1 S.2.1 d_M_merged_60 ?_
          refine lv_iload_n S.1 S.2.1 d_M_merged_61 rfl (lv_at hl 5 rfl) ?_
          refine lv_iadd S.1 S.2.1 d_M_merged_62 ?_
          refine ur_iald (k := 21) (n := 384) (f := (w 21)) (j := (64 * i + ch)) S hK hP (by decide) 0 (mg_arr 21 (by decide)) rfl (ix64 i ch) (by omega) (by decide) d_M_merged_63 ?_
          refine lv_istore (lv' := [(6, .int ((w 21) (64 * i + ch))), (2, .int (mMx w ch i)), (5, .int (((mAt w (64 * i + ch) (w 22 0)) * ((w 13) i)) / 255)), (4, .int (nI i)), (3, .int (oI (mLs w ch i))), (0, .ref (ad 0)), (1, .int (nI ch))]) S.1 S.2.1 d_M_merged_64 hl (by decide) rfl (fun ls hl => ?_)
          refine lv_iload S.1 S.2.1 d_M_merged_66 (lv_at hl 0 rfl) ?_
          refine lv_iconst (v := (-1)) S.1 S.2.1 d_M_merged_68 (by decide) ?_
          refine lv_icmp_eq (tgt := 97) S.1 S.2.1 d_M_merged_69 (by decide) (fun c_n => ?_) (fun c_n => ?_)
          · refine lv_iload_n S.1 S.2.1 d_M_merged_97 rfl (lv_at hl 4 rfl) ?_
            refine lv_istore_n (lv' := [(3, .int (oI (mLs w ch i))), (6, .int ((w 21) (64 * i + ch))), (2, .int (mMx w ch i)), (5, .int (((mAt w (64 * i + ch) (w 22 0)) * ((w 13) i)) / 255)), (4, .int (nI i)), (0, .ref (ad 0)), (1, .int (nI ch))]) S.1 S.2.1 d_M_merged_98 rfl hl (by decide) rfl (fun ls hl => ?_)
            refine lv_iinc (v := nI (i + 1)) (lv' := [(4, .int (nI (i + 1))), (3, .int (oI (mLs w ch i))), (6, .int ((w 21) (64 * i + ch))), (2, .int (mMx w ch i)), (5, .int (((mAt w (64 * i + ch) (w 22 0)) * ((w 13) i)) / 255)), (0, .ref (ad 0)), (1, .int (nI ch))]) S.1 S.2.1 d_M_merged_99 hl (k := 4) rfl (nI_1 i) (by decide) rfl (fun ls hl => ?_)
            refine lv_goto (tgt := 7) S.1 S.2.1 d_M_merged_102 (by decide) ?_
            exact ih _ _ ls hP hS (by rw [show mMx w ch (i + 1) = mMx w ch i from by rw [mMx, if_pos c_l], show mLs w ch (i + 1) = mLs w ch i from by rw [mLs, if_pos c_n]]; exact lv_sub hl [0, 1, 3, 5, 6] rfl)
          · refine lv_iload_n S.1 S.2.1 d_M_merged_72 rfl (lv_at hl 4 rfl) ?_
            rcases hX_5 : mLs w ch i with _ | p_6
            · refine lv_if_lt (tgt := 92) S.1 S.2.1 d_M_merged_73 (by decide) (fun c_7 => ?_) (fun c_7 => ?_)
              · refine lv_iload S.1 S.2.1 d_M_merged_92 (lv_at hl 3 rfl) ?_
                refine lv_goto (tgt := 98) S.1 S.2.1 d_M_merged_94 (by decide) ?_
                refine lv_istore_n (lv' := [(3, .int (nI i)), (6, .int ((w 21) (64 * i + ch))), (2, .int (mMx w ch i)), (5, .int (((mAt w (64 * i + ch) (w 22 0)) * ((w 13) i)) / 255)), (4, .int (nI i)), (0, .ref (ad 0)), (1, .int (nI ch))]) S.1 S.2.1 d_M_merged_98 rfl hl (by decide) rfl (fun ls hl => ?_)
                refine lv_iinc (v := nI (i + 1)) (lv' := [(4, .int (nI (i + 1))), (3, .int (nI i)), (6, .int ((w 21) (64 * i + ch))), (2, .int (mMx w ch i)), (5, .int (((mAt w (64 * i + ch) (w 22 0)) * ((w 13) i)) / 255)), (0, .ref (ad 0)), (1, .int (nI ch))]) S.1 S.2.1 d_M_merged_99 hl (k := 4) rfl (nI_1 i) (by decide) rfl (fun ls hl => ?_)
                refine lv_goto (tgt := 7) S.1 S.2.1 d_M_merged_102 (by decide) ?_
                exact ih _ _ ls hP hS (by rw [show mMx w ch (i + 1) = mMx w ch i from by rw [mMx, if_pos c_l], show mLs w ch (i + 1) = some i from by rw [mLs, if_neg c_n, hX_5]]; exact lv_sub hl [0, 1, 3, 5, 6] rfl)
              · exact absurd (by decide) c_7
            · have hp_6 := mLs_lt _ _ hX_5
              refine lv_if_lt (tgt := 92) S.1 S.2.1 d_M_merged_73 (by decide) (fun c_8 => ?_) (fun c_8 => ?_)
              · exact absurd c_8 (nI_pos (by omega))
              · refine lv_iload S.1 S.2.1 d_M_merged_76 (lv_at hl 0 rfl) ?_
                refine lv_aload_n S.1 S.2.1 d_M_merged_78 rfl (lv_at hl 5 rfl) ?_
                refine ur_get (k := 0) (v := .ref (ad 21)) S hK hP (by decide) mg_obj rfl (fun w h => hU w (in_M w h)) 21 (by decide) (hU _ t3_181) rfl d_M_merged_79 ?_
                refine lv_bipush (v := 64) S.1 S.2.1 d_M_merged_82 (by decide) ?_
                refine lv_iload_n S.1 S.2.1 d_M_merged_84 rfl (lv_at hl 4 rfl) ?_
                refine lv_imul S.1 S.2.1 d_M_merged_85 ?_
                refine lv_iload_n S.1 S.2.1 d_M_merged_86 rfl (lv_at hl 6 rfl) ?_
                refine lv_iadd S.1 S.2.1 d_M_merged_87 ?_
                refine ur_iald (k := 21) (n := 384) (f := (w 21)) (j := (64 * p_6 + ch)) S hK hP (by decide) 0 (mg_arr 21 (by decide)) rfl (by rw [hX_5]; exact ix64 p_6 ch) (by omega) (by decide) d_M_merged_88 ?_
                refine lv_icmp_lt (tgt := 97) S.1 S.2.1 d_M_merged_89 (by decide) (fun c_t => ?_) (fun c_t => ?_)
                · refine lv_iload_n S.1 S.2.1 d_M_merged_97 rfl (lv_at hl 4 rfl) ?_
                  refine lv_istore_n (lv' := [(3, .int (oI (mLs w ch i))), (6, .int ((w 21) (64 * i + ch))), (2, .int (mMx w ch i)), (5, .int (((mAt w (64 * i + ch) (w 22 0)) * ((w 13) i)) / 255)), (4, .int (nI i)), (0, .ref (ad 0)), (1, .int (nI ch))]) S.1 S.2.1 d_M_merged_98 rfl hl (by decide) rfl (fun ls hl => ?_)
                  refine lv_iinc (v := nI (i + 1)) (lv' := [(4, .int (nI (i + 1))), (3, .int (oI (mLs w ch i))), (6, .int ((w 21) (64 * i + ch))), (2, .int (mMx w ch i)), (5, .int (((mAt w (64 * i + ch) (w 22 0)) * ((w 13) i)) / 255)), (0, .ref (ad 0)), (1, .int (nI ch))]) S.1 S.2.1 d_M_merged_99 hl (k := 4) rfl (nI_1 i) (by decide) rfl (fun ls hl => ?_)
                  refine lv_goto (tgt := 7) S.1 S.2.1 d_M_merged_102 (by decide) ?_
                  exact ih _ _ ls hP hS (by rw [show mMx w ch (i + 1) = mMx w ch i from by rw [mMx, if_pos c_l], show mLs w ch (i + 1) = some p_6 from by rw [mLs, if_neg c_n, hX_5]; show ite _ _ _ = _; rw [if_pos c_t]]; rw [hX_5] at hl; exact lv_sub hl [0, 1, 3, 5, 6] rfl)
                · refine lv_iload S.1 S.2.1 d_M_merged_92 (lv_at hl 3 rfl) ?_
                  refine lv_goto (tgt := 98) S.1 S.2.1 d_M_merged_94 (by decide) ?_
                  refine lv_istore_n (lv' := [(3, .int (nI i)), (6, .int ((w 21) (64 * i + ch))), (2, .int (mMx w ch i)), (5, .int (((mAt w (64 * i + ch) (w 22 0)) * ((w 13) i)) / 255)), (4, .int (nI i)), (0, .ref (ad 0)), (1, .int (nI ch))]) S.1 S.2.1 d_M_merged_98 rfl hl (by decide) rfl (fun ls hl => ?_)
                  refine lv_iinc (v := nI (i + 1)) (lv' := [(4, .int (nI (i + 1))), (3, .int (nI i)), (6, .int ((w 21) (64 * i + ch))), (2, .int (mMx w ch i)), (5, .int (((mAt w (64 * i + ch) (w 22 0)) * ((w 13) i)) / 255)), (0, .ref (ad 0)), (1, .int (nI ch))]) S.1 S.2.1 d_M_merged_99 hl (k := 4) rfl (nI_1 i) (by decide) rfl (fun ls hl => ?_)
                  refine lv_goto (tgt := 7) S.1 S.2.1 d_M_merged_102 (by decide) ?_
                  exact ih _ _ ls hP hS (by rw [show mMx w ch (i + 1) = mMx w ch i from by rw [mMx, if_pos c_l], show mLs w ch (i + 1) = some i from by rw [mLs, if_neg c_n, hX_5]; show ite _ _ _ = _; rw [if_neg c_t]]; exact lv_sub hl [0, 1, 3, 5, 6] rfl)
        · refine lv_iload S.1 S.2.1 d_M_merged_45 (lv_at hl 0 rfl) ?_
          refine lv_goto (tgt := 51) S.1 S.2.1 d_M_merged_47 (by decide) ?_
          refine lv_istore_n (lv' := [(2, .int (((mAt w (64 * i + ch) (w 22 0)) * ((w 13) i)) / 255)), (5, .int (((mAt w (64 * i + ch) (w 22 0)) * ((w 13) i)) / 255)), (4, .int (nI i)), (3, .int (oI (mLs w ch i))), (0, .ref (ad 0)), (1, .int (nI ch))]) S.1 S.2.1 d_M_merged_51 rfl hl (by decide) rfl (fun ls hl => ?_)
          refine lv_aload_n S.1 S.2.1 d_M_merged_52 rfl (lv_at hl 4 rfl) ?_
          refine ur_get (k := 0) (v := .ref (ad 21)) S hK hP (by decide) mg_obj rfl (fun w h => hU w (in_M w h)) 21 (by decide) (hU _ t3_181) rfl d_M_merged_53 ?_
          refine lv_bipush (v := 64) S.1 S.2.1 d_M_merged_56 (by decide) ?_
          refine lv_iload S.1 S.2.1 d_M_merged_58 (lv_at hl 2 rfl) ?_
          refine lv_imul S.1 S.2.1 d_M_merged_60 ?_
          refine lv_iload_n S.1 S.2.1 d_M_merged_61 rfl (lv_at hl 5 rfl) ?_
          refine lv_iadd S.1 S.2.1 d_M_merged_62 ?_
          refine ur_iald (k := 21) (n := 384) (f := (w 21)) (j := (64 * i + ch)) S hK hP (by decide) 0 (mg_arr 21 (by decide)) rfl (ix64 i ch) (by omega) (by decide) d_M_merged_63 ?_
          refine lv_istore (lv' := [(6, .int ((w 21) (64 * i + ch))), (2, .int (((mAt w (64 * i + ch) (w 22 0)) * ((w 13) i)) / 255)), (5, .int (((mAt w (64 * i + ch) (w 22 0)) * ((w 13) i)) / 255)), (4, .int (nI i)), (3, .int (oI (mLs w ch i))), (0, .ref (ad 0)), (1, .int (nI ch))]) S.1 S.2.1 d_M_merged_64 hl (by decide) rfl (fun ls hl => ?_)
          refine lv_iload S.1 S.2.1 d_M_merged_66 (lv_at hl 0 rfl) ?_
          refine lv_iconst (v := (-1)) S.1 S.2.1 d_M_merged_68 (by decide) ?_
          refine lv_icmp_eq (tgt := 97) S.1 S.2.1 d_M_merged_69 (by decide) (fun c_n => ?_) (fun c_n => ?_)
          · refine lv_iload_n S.1 S.2.1 d_M_merged_97 rfl (lv_at hl 4 rfl) ?_
            refine lv_istore_n (lv' := [(3, .int (oI (mLs w ch i))), (6, .int ((w 21) (64 * i + ch))), (2, .int (((mAt w (64 * i + ch) (w 22 0)) * ((w 13) i)) / 255)), (5, .int (((mAt w (64 * i + ch) (w 22 0)) * ((w 13) i)) / 255)), (4, .int (nI i)), (0, .ref (ad 0)), (1, .int (nI ch))]) S.1 S.2.1 d_M_merged_98 rfl hl (by decide) rfl (fun ls hl => ?_)
            refine lv_iinc (v := nI (i + 1)) (lv' := [(4, .int (nI (i + 1))), (3, .int (oI (mLs w ch i))), (6, .int ((w 21) (64 * i + ch))), (2, .int (((mAt w (64 * i + ch) (w 22 0)) * ((w 13) i)) / 255)), (5, .int (((mAt w (64 * i + ch) (w 22 0)) * ((w 13) i)) / 255)), (0, .ref (ad 0)), (1, .int (nI ch))]) S.1 S.2.1 d_M_merged_99 hl (k := 4) rfl (nI_1 i) (by decide) rfl (fun ls hl => ?_)
            refine lv_goto (tgt := 7) S.1 S.2.1 d_M_merged_102 (by decide) ?_
            exact ih _ _ ls hP hS (by rw [show mMx w ch (i + 1) = ((mAt w (64 * i + ch) (w 22 0)) * ((w 13) i)) / 255 from by rw [mMx, if_neg c_l], show mLs w ch (i + 1) = mLs w ch i from by rw [mLs, if_pos c_n]]; exact lv_sub hl [0, 1, 3, 5, 6] rfl)
          · refine lv_iload_n S.1 S.2.1 d_M_merged_72 rfl (lv_at hl 4 rfl) ?_
            rcases hX_9 : mLs w ch i with _ | p_10
            · refine lv_if_lt (tgt := 92) S.1 S.2.1 d_M_merged_73 (by decide) (fun c_11 => ?_) (fun c_11 => ?_)
              · refine lv_iload S.1 S.2.1 d_M_merged_92 (lv_at hl 3 rfl) ?_
                refine lv_goto (tgt := 98) S.1 S.2.1 d_M_merged_94 (by decide) ?_
                refine lv_istore_n (lv' := [(3, .int (nI i)), (6, .int ((w 21) (64 * i + ch))), (2, .int (((mAt w (64 * i + ch) (w 22 0)) * ((w 13) i)) / 255)), (5, .int (((mAt w (64 * i + ch) (w 22 0)) * ((w 13) i)) / 255)), (4, .int (nI i)), (0, .ref (ad 0)), (1, .int (nI ch))]) S.1 S.2.1 d_M_merged_98 rfl hl (by decide) rfl (fun ls hl => ?_)
                refine lv_iinc (v := nI (i + 1)) (lv' := [(4, .int (nI (i + 1))), (3, .int (nI i)), (6, .int ((w 21) (64 * i + ch))), (2, .int (((mAt w (64 * i + ch) (w 22 0)) * ((w 13) i)) / 255)), (5, .int (((mAt w (64 * i + ch) (w 22 0)) * ((w 13) i)) / 255)), (0, .ref (ad 0)), (1, .int (nI ch))]) S.1 S.2.1 d_M_merged_99 hl (k := 4) rfl (nI_1 i) (by decide) rfl (fun ls hl => ?_)
                refine lv_goto (tgt := 7) S.1 S.2.1 d_M_merged_102 (by decide) ?_
                exact ih _ _ ls hP hS (by rw [show mMx w ch (i + 1) = ((mAt w (64 * i + ch) (w 22 0)) * ((w 13) i)) / 255 from by rw [mMx, if_neg c_l], show mLs w ch (i + 1) = some i from by rw [mLs, if_neg c_n, hX_9]]; exact lv_sub hl [0, 1, 3, 5, 6] rfl)
              · exact absurd (by decide) c_11
            · have hp_10 := mLs_lt _ _ hX_9
              refine lv_if_lt (tgt := 92) S.1 S.2.1 d_M_merged_73 (by decide) (fun c_12 => ?_) (fun c_12 => ?_)
              · exact absurd c_12 (nI_pos (by omega))
              · refine lv_iload S.1 S.2.1 d_M_merged_76 (lv_at hl 0 rfl) ?_
                refine lv_aload_n S.1 S.2.1 d_M_merged_78 rfl (lv_at hl 5 rfl) ?_
                refine ur_get (k := 0) (v := .ref (ad 21)) S hK hP (by decide) mg_obj rfl (fun w h => hU w (in_M w h)) 21 (by decide) (hU _ t3_181) rfl d_M_merged_79 ?_
                refine lv_bipush (v := 64) S.1 S.2.1 d_M_merged_82 (by decide) ?_
                refine lv_iload_n S.1 S.2.1 d_M_merged_84 rfl (lv_at hl 4 rfl) ?_
                refine lv_imul S.1 S.2.1 d_M_merged_85 ?_
                refine lv_iload_n S.1 S.2.1 d_M_merged_86 rfl (lv_at hl 6 rfl) ?_
                refine lv_iadd S.1 S.2.1 d_M_merged_87 ?_
                refine ur_iald (k := 21) (n := 384) (f := (w 21)) (j := (64 * p_10 + ch)) S hK hP (by decide) 0 (mg_arr 21 (by decide)) rfl (by rw [hX_9]; exact ix64 p_10 ch) (by omega) (by decide) d_M_merged_88 ?_
                refine lv_icmp_lt (tgt := 97) S.1 S.2.1 d_M_merged_89 (by decide) (fun c_t => ?_) (fun c_t => ?_)
                · refine lv_iload_n S.1 S.2.1 d_M_merged_97 rfl (lv_at hl 4 rfl) ?_
                  refine lv_istore_n (lv' := [(3, .int (oI (mLs w ch i))), (6, .int ((w 21) (64 * i + ch))), (2, .int (((mAt w (64 * i + ch) (w 22 0)) * ((w 13) i)) / 255)), (5, .int (((mAt w (64 * i + ch) (w 22 0)) * ((w 13) i)) / 255)), (4, .int (nI i)), (0, .ref (ad 0)), (1, .int (nI ch))]) S.1 S.2.1 d_M_merged_98 rfl hl (by decide) rfl (fun ls hl => ?_)
                  refine lv_iinc (v := nI (i + 1)) (lv' := [(4, .int (nI (i + 1))), (3, .int (oI (mLs w ch i))), (6, .int ((w 21) (64 * i + ch))), (2, .int (((mAt w (64 * i + ch) (w 22 0)) * ((w 13) i)) / 255)), (5, .int (((mAt w (64 * i + ch) (w 22 0)) * ((w 13) i)) / 255)), (0, .ref (ad 0)), (1, .int (nI ch))]) S.1 S.2.1 d_M_merged_99 hl (k := 4) rfl (nI_1 i) (by decide) rfl (fun ls hl => ?_)
                  refine lv_goto (tgt := 7) S.1 S.2.1 d_M_merged_102 (by decide) ?_
                  exact ih _ _ ls hP hS (by rw [show mMx w ch (i + 1) = ((mAt w (64 * i + ch) (w 22 0)) * ((w 13) i)) / 255 from by rw [mMx, if_neg c_l], show mLs w ch (i + 1) = some p_10 from by rw [mLs, if_neg c_n, hX_9]; show ite _ _ _ = _; rw [if_pos c_t]]; rw [hX_9] at hl; exact lv_sub hl [0, 1, 3, 5, 6] rfl)
                · refine lv_iload S.1 S.2.1 d_M_merged_92 (lv_at hl 3 rfl) ?_
                  refine lv_goto (tgt := 98) S.1 S.2.1 d_M_merged_94 (by decide) ?_
                  refine lv_istore_n (lv' := [(3, .int (nI i)), (6, .int ((w 21) (64 * i + ch))), (2, .int (((mAt w (64 * i + ch) (w 22 0)) * ((w 13) i)) / 255)), (5, .int (((mAt w (64 * i + ch) (w 22 0)) * ((w 13) i)) / 255)), (4, .int (nI i)), (0, .ref (ad 0)), (1, .int (nI ch))]) S.1 S.2.1 d_M_merged_98 rfl hl (by decide) rfl (fun ls hl => ?_)
                  refine lv_iinc (v := nI (i + 1)) (lv' := [(4, .int (nI (i + 1))), (3, .int (nI i)), (6, .int ((w 21) (64 * i + ch))), (2, .int (((mAt w (64 * i + ch) (w 22 0)) * ((w 13) i)) / 255)), (5, .int (((mAt w (64 * i + ch) (w 22 0)) * ((w 13) i)) / 255)), (0, .ref (ad 0)), (1, .int (nI ch))]) S.1 S.2.1 d_M_merged_99 hl (k := 4) rfl (nI_1 i) (by decide) rfl (fun ls hl => ?_)
                  refine lv_goto (tgt := 7) S.1 S.2.1 d_M_merged_102 (by decide) ?_
                  exact ih _ _ ls hP hS (by rw [show mMx w ch (i + 1) = ((mAt w (64 * i + ch) (w 22 0)) * ((w 13) i)) / 255 from by rw [mMx, if_neg c_l], show mLs w ch (i + 1) = some i from by rw [mLs, if_neg c_n, hX_9]; show ite _ _ _ = _; rw [if_neg c_t]]; exact lv_sub hl [0, 1, 3, 5, 6] rfl)
  exact L 0 (Nat.zero_le _) _ _ ls hP hS (lv_sub hl [0, 1, 2, 3, 4] rfl)

set_option maxRecDepth 100000 in
set_option maxHeartbeats 4000000 in
theorem c_M_start {l : Launch} {D : va_G} {ca : Nat → ClassId} {ad : Nat → Nat} (hJ : uJ 22 ad) (w : Nat → Nat → Int32) (M : Nat) (hM : M = 64) (F : Nat) (hF : F = 40) (j q : Nat) (hj : j < 6) (hq : q < 40) (t : Int32) (hv : mV w) (ho : mO w t) : uMv l y_M_start b_M_start 8 (none : Option Jvm.ClassFile.FieldType) 4 96 D clsAll (tysAll ca) 22 ad (mG ca ad) w [.ref (ad 0), .int (nI j), .int (nI q), .int t] (fun u => u = mStart w j q t F M) := by
  refine uStart (by decide) (Nat.le_of_ble_eq_true rfl) ?_
  intro p e s m below meth c ls S hr hlk hK hN hP hl
  have hU : ∀ w ∈ uWS, w ∈ (Cond.code y_M_start b_M_start 8 (none : Option Jvm.ClassFile.FieldType) :: uWS) := fun w h => List.mem_cons_of_mem _ h
  have hS : va_S (uA 22 ad s.heap.size) s.heap s.heap [] := va_S.rf
  have hl : lv_has ls 8 [(0, .ref (ad 0)), (1, .int (nI j)), (2, .int (nI q)), (3, .int t)] := hl
  refine lv_iconst (v := 0) S.1 S.2.1 d_M_start_0 (by decide) ?_
  refine lv_istore (lv' := [(4, .int 0), (0, .ref (ad 0)), (1, .int (nI j)), (2, .int (nI q)), (3, .int t)]) S.1 S.2.1 d_M_start_1 hl (by decide) rfl (fun ls hl => ?_)
  have L : ∀ i, i ≤ M → ∀ (H : Heap) (locs : List Loc) (ls : Array Slot), va_P D clsAll (uw 22 ad (mG ca ad (mSt w j q t F i))) H → va_S (uA 22 ad s.heap.size) s.heap H locs → lv_has ls 8 [(4, .int (nI i)), (0, .ref (ad 0)), (1, .int (nI j)), (2, .int (nI q)), (3, .int t)] → uGv 4 96 D clsAll 22 ad (mG ca ad) (fun u => u = mStart w j q t F M) [.ref (ad 0), .int (nI j), .int (nI q), .int t] p l e s m below meth c H locs 3 ls [] := by
    refine upTo M ?_ ?_
    · intro H locs ls hP hS hl
      refine lv_iload S.1 S.2.1 d_M_start_3 (lv_at hl 0 rfl) ?_
      refine lv_bipush (v := 64) S.1 S.2.1 d_M_start_5 (by decide) ?_
      refine lv_icmp_ge (tgt := 132) S.1 S.2.1 d_M_start_7 (by decide) (fun c_h => ?_) (fun c_h => ?_)
      · refine lv_aload_n S.1 S.2.1 d_M_start_132 rfl (lv_at hl 1 rfl) ?_
        refine ur_get (k := 0) (v := .ref (ad 14)) S hK hP (by decide) mg_obj rfl (fun w h => hU w (in_M w h)) 14 (by decide) (hU _ t3_174) rfl d_M_start_133 ?_
        refine lv_iload_n S.1 S.2.1 d_M_start_136 rfl (lv_at hl 2 rfl) ?_
        refine lv_aload_n S.1 S.2.1 d_M_start_137 rfl (lv_at hl 1 rfl) ?_
        refine ur_get (k := 0) (v := .ref (ad 5)) S hK hP (by decide) mg_obj rfl (fun w h => hU w (in_M w h)) 5 (by decide) (hU _ t3_165) rfl d_M_start_138 ?_
        refine lv_iload_n S.1 S.2.1 d_M_start_141 rfl (lv_at hl 3 rfl) ?_
        refine ur_iald (k := 5) (n := 40) (f := ((mSt w j q t F M) 5)) (j := q) S hK hP (by decide) 0 (mg_arr 5 (by decide)) rfl rfl hq (by decide) d_M_start_142 ?_
        refine ur_iast (k := 14) (n := 6) (f := ((mSt w j q t F M) 14)) (j := j) (g' := mG ca ad (up2 (mSt w j q t F M) 14 j (((mSt w j q t F M) 5) q))) S hK hP (uD _ hJ) hS (by decide) 0 (mg_arr 14 (by decide)) rfl rfl hj (by decide) (ms_arr 14 (by decide) (by decide) (by decide)) d_M_start_143 (fun H locs hP hS => ?_)
        refine lv_aload_n S.1 S.2.1 d_M_start_144 rfl (lv_at hl 1 rfl) ?_
        refine ur_get (k := 0) (v := .ref (ad 15)) S hK hP (by decide) mg_obj rfl (fun w h => hU w (in_M w h)) 15 (by decide) (hU _ t3_175) rfl d_M_start_145 ?_
        refine lv_iload_n S.1 S.2.1 d_M_start_148 rfl (lv_at hl 2 rfl) ?_
        refine lv_iload_n S.1 S.2.1 d_M_start_149 rfl (lv_at hl 4 rfl) ?_
        refine ur_iast (k := 15) (n := 6) (f := ((up2 (mSt w j q t F M) 14 j (((mSt w j q t F M) 5) q)) 15)) (j := j) (g' := mG ca ad (up2 (up2 (mSt w j q t F M) 14 j (((mSt w j q t F M) 5) q)) 15 j t)) S hK hP (uD _ hJ) hS (by decide) 0 (mg_arr 15 (by decide)) rfl rfl hj (by decide) (ms_arr 15 (by decide) (by decide) (by decide)) d_M_start_150 (fun H locs hP hS => ?_)
        refine lv_aload_n S.1 S.2.1 d_M_start_151 rfl (lv_at hl 1 rfl) ?_
        refine ur_get (k := 0) (v := .ref (ad 16)) S hK hP (by decide) mg_obj rfl (fun w h => hU w (in_M w h)) 16 (by decide) (hU _ t3_176) rfl d_M_start_152 ?_
        refine lv_iload_n S.1 S.2.1 d_M_start_155 rfl (lv_at hl 2 rfl) ?_
        refine lv_aload_n S.1 S.2.1 d_M_start_156 rfl (lv_at hl 1 rfl) ?_
        refine ur_get (k := 0) (v := .ref (ad 9)) S hK hP (by decide) mg_obj rfl (fun w h => hU w (in_M w h)) 9 (by decide) (hU _ t3_169) rfl d_M_start_157 ?_
        refine lv_iload_n S.1 S.2.1 d_M_start_160 rfl (lv_at hl 3 rfl) ?_
        refine ur_iald (k := 9) (n := 40) (f := ((up2 (up2 (mSt w j q t F M) 14 j (((mSt w j q t F M) 5) q)) 15 j t) 9)) (j := q) S hK hP (by decide) 0 (mg_arr 9 (by decide)) rfl rfl hq (by decide) d_M_start_161 ?_
        simp only [up2_f (show 9 ≠ 17 by decide), up2_f (show 9 ≠ 18 by decide), up2_f (show 9 ≠ 19 by decide), up2_f (show 9 ≠ 14 by decide), up2_f (show 9 ≠ 15 by decide), up2_f (show 9 ≠ 16 by decide)]
        refine lv_iconst (v := (-1)) S.1 S.2.1 d_M_start_162 (by decide) ?_
        refine lv_icmp_ne (tgt := 170) S.1 S.2.1 d_M_start_163 (by decide) (fun c_f => ?_) (fun c_f => ?_)
        · refine lv_iload_n S.1 S.2.1 d_M_start_170 rfl (lv_at hl 4 rfl) ?_
          refine lv_aload_n S.1 S.2.1 d_M_start_171 rfl (lv_at hl 1 rfl) ?_
          refine ur_get (k := 0) (v := .ref (ad 9)) S hK hP (by decide) mg_obj rfl (fun w h => hU w (in_M w h)) 9 (by decide) (hU _ t3_169) rfl d_M_start_172 ?_
          refine lv_iload_n S.1 S.2.1 d_M_start_175 rfl (lv_at hl 3 rfl) ?_
          refine ur_iald (k := 9) (n := 40) (f := ((up2 (up2 (mSt w j q t F M) 14 j (((mSt w j q t F M) 5) q)) 15 j t) 9)) (j := q) S hK hP (by decide) 0 (mg_arr 9 (by decide)) rfl rfl hq (by decide) d_M_start_176 ?_
          simp only [up2_f (show 9 ≠ 17 by decide), up2_f (show 9 ≠ 18 by decide), up2_f (show 9 ≠ 19 by decide), up2_f (show 9 ≠ 14 by decide), up2_f (show 9 ≠ 15 by decide), up2_f (show 9 ≠ 16 by decide)]
          refine lv_iadd S.1 S.2.1 d_M_start_177 ?_
          refine ur_iast (k := 16) (n := 6) (f := ((up2 (up2 (mSt w j q t F M) 14 j (((mSt w j q t F M) 5) q)) 15 j t) 16)) (j := j) (g' := mG ca ad (up2 (up2 (up2 (mSt w j q t F M) 14 j (((mSt w j q t F M) 5) q)) 15 j t) 16 j (t + ((mSt w j q t F M) 9 q)))) S hK hP (uD _ hJ) hS (by decide) 0 (mg_arr 16 (by decide)) rfl rfl hj (by decide) (ms_arr 16 (by decide) (by decide) (by decide)) d_M_start_178 (fun H locs hP hS => ?_)
          refine lv_aload_n S.1 S.2.1 d_M_start_179 rfl (lv_at hl 1 rfl) ?_
          refine lv_dup S.1 S.2.1 d_M_start_180 rfl ?_
          refine ur_get (k := 0) (v := .int ((up2 (up2 (up2 (mSt w j q t F M) 14 j (((mSt w j q t F M) 5) q)) 15 j t) 16 j (t + ((mSt w j q t F M) 9 q))) 23 0)) S hK hP (by decide) mg_obj rfl (fun w h => hU w (in_M w h)) 23 (by decide) (hU _ t3_183) rfl d_M_start_181 ?_
          simp only [up2_f (show 23 ≠ 17 by decide), up2_f (show 23 ≠ 18 by decide), up2_f (show 23 ≠ 19 by decide), up2_f (show 23 ≠ 14 by decide), up2_f (show 23 ≠ 15 by decide), up2_f (show 23 ≠ 16 by decide)]
          refine lv_iconst (v := 1) S.1 S.2.1 d_M_start_184 (by decide) ?_
          refine lv_iadd S.1 S.2.1 d_M_start_185 ?_
          refine ur_put (k := 0) (v := .int (((mSt w j q t F M) 23 0) + 1)) (g' := mG ca ad (up2 (up2 (up2 (up2 (mSt w j q t F M) 14 j (((mSt w j q t F M) 5) q)) 15 j t) 16 j (t + ((mSt w j q t F M) 9 q))) 23 0 (((mSt w j q t F M) 23 0) + 1))) S hK hP (uD _ hJ) hS (by decide) mg_obj rfl (fun w h => hU w (in_M w h)) ty_M tyk_M nm_M 23 (by decide) (hU _ t3_183) rfl rfl rfl (Nat.le_of_ble_eq_true rfl) ms_sts d_M_start_186 (fun H locs hP hS => ?_)
          exact uVret S hr hlk (up2 (up2 (up2 (up2 (mSt w j q t F M) 14 j (((mSt w j q t F M) 5) q)) 15 j t) 16 j (t + ((mSt w j q t F M) 9 q))) 23 0 (((mSt w j q t F M) 23 0) + 1)) hP hS (by unfold mStart mStart1; (first | rw [if_pos c_f] | rw [if_neg c_f])) d_M_start_189
        · refine lv_iconst (v := (-1)) S.1 S.2.1 d_M_start_166 (by decide) ?_
          refine lv_goto (tgt := 178) S.1 S.2.1 d_M_start_167 (by decide) ?_
          refine ur_iast (k := 16) (n := 6) (f := ((up2 (up2 (mSt w j q t F M) 14 j (((mSt w j q t F M) 5) q)) 15 j t) 16)) (j := j) (g' := mG ca ad (up2 (up2 (up2 (mSt w j q t F M) 14 j (((mSt w j q t F M) 5) q)) 15 j t) 16 j (-1))) S hK hP (uD _ hJ) hS (by decide) 0 (mg_arr 16 (by decide)) rfl rfl hj (by decide) (ms_arr 16 (by decide) (by decide) (by decide)) d_M_start_178 (fun H locs hP hS => ?_)
          refine lv_aload_n S.1 S.2.1 d_M_start_179 rfl (lv_at hl 1 rfl) ?_
          refine lv_dup S.1 S.2.1 d_M_start_180 rfl ?_
          refine ur_get (k := 0) (v := .int ((up2 (up2 (up2 (mSt w j q t F M) 14 j (((mSt w j q t F M) 5) q)) 15 j t) 16 j (-1)) 23 0)) S hK hP (by decide) mg_obj rfl (fun w h => hU w (in_M w h)) 23 (by decide) (hU _ t3_183) rfl d_M_start_181 ?_
          simp only [up2_f (show 23 ≠ 17 by decide), up2_f (show 23 ≠ 18 by decide), up2_f (show 23 ≠ 19 by decide), up2_f (show 23 ≠ 14 by decide), up2_f (show 23 ≠ 15 by decide), up2_f (show 23 ≠ 16 by decide)]
          refine lv_iconst (v := 1) S.1 S.2.1 d_M_start_184 (by decide) ?_
          refine lv_iadd S.1 S.2.1 d_M_start_185 ?_
          refine ur_put (k := 0) (v := .int (((mSt w j q t F M) 23 0) + 1)) (g' := mG ca ad (up2 (up2 (up2 (up2 (mSt w j q t F M) 14 j (((mSt w j q t F M) 5) q)) 15 j t) 16 j (-1)) 23 0 (((mSt w j q t F M) 23 0) + 1))) S hK hP (uD _ hJ) hS (by decide) mg_obj rfl (fun w h => hU w (in_M w h)) ty_M tyk_M nm_M 23 (by decide) (hU _ t3_183) rfl rfl rfl (Nat.le_of_ble_eq_true rfl) ms_sts d_M_start_186 (fun H locs hP hS => ?_)
          exact uVret S hr hlk (up2 (up2 (up2 (up2 (mSt w j q t F M) 14 j (((mSt w j q t F M) 5) q)) 15 j t) 16 j (-1)) 23 0 (((mSt w j q t F M) 23 0) + 1)) hP hS (by unfold mStart mStart1; (first | rw [if_pos c_f] | rw [if_neg c_f])) d_M_start_189
      · exact absurd (by subst hM; exact nI_le (Nat.le_refl 64) (by decide)) c_h
    · intro i hi ih H locs ls hP hS hl
      have hv := mSt_v (p := j) (q := q) (t := t) (F := F) hv i
      have ho := mSt_o (p := j) (q := q) (F := F) hj (by omega : i < 64) ho
      refine lv_iload S.1 S.2.1 d_M_start_3 (lv_at hl 0 rfl) ?_
      refine lv_bipush (v := 64) S.1 S.2.1 d_M_start_5 (by decide) ?_
      refine lv_icmp_ge (tgt := 132) S.1 S.2.1 d_M_start_7 (by decide) (fun c_h => ?_) (fun c_h => ?_)
      · exact absurd c_h (nI_ge (b := 64) (by omega) (by decide))
      · refine lv_aload_n S.1 S.2.1 d_M_start_10 rfl (lv_at hl 1 rfl) ?_
        refine lv_aload_n S.1 S.2.1 d_M_start_11 rfl (lv_at hl 1 rfl) ?_
        refine ur_get (k := 0) (v := .ref (ad 4)) S hK hP (by decide) mg_obj rfl (fun w h => hU w (in_M w h)) 4 (by decide) (hU _ t3_164) rfl d_M_start_12 ?_
        refine lv_iload_n S.1 S.2.1 d_M_start_15 rfl (lv_at hl 3 rfl) ?_
        refine ur_iald (k := 4) (n := 40) (f := ((mSt w j q t F i) 4)) (j := q) S hK hP (by decide) 0 (mg_arr 4 (by decide)) rfl rfl hq (by decide) d_M_start_16 ?_
        refine lv_aload_n S.1 S.2.1 d_M_start_17 rfl (lv_at hl 1 rfl) ?_
        refine ur_get (k := 0) (v := .ref (ad 5)) S hK hP (by decide) mg_obj rfl (fun w h => hU w (in_M w h)) 5 (by decide) (hU _ t3_165) rfl d_M_start_18 ?_
        refine lv_iload_n S.1 S.2.1 d_M_start_21 rfl (lv_at hl 3 rfl) ?_
        refine ur_iald (k := 5) (n := 40) (f := ((mSt w j q t F i) 5)) (j := q) S hK hP (by decide) 0 (mg_arr 5 (by decide)) rfl rfl hq (by decide) d_M_start_22 ?_
        refine lv_iload S.1 S.2.1 d_M_start_23 (lv_at hl 0 rfl) ?_
        refine uVi (n := 3) (b := 0) (As := [.int (((mSt w j q t F i) 4) q), .int (((mSt w j q t F i) 5) q), .int (nI i)]) (rest := []) S hK hN hP hS (c_M_lookOf hJ (mSt w j q t F i) F hF hv (((mSt w j q t F i) 4) q) (((mSt w j q t F i) 5) q) i (by omega)) ⟨hU, t4_118, t4_115, t1_8, by decide +kernel, by decide, by decide⟩ t4_117 tp_30 (by decide) mg_obj rfl rfl rfl hl.1 rfl (Nat.le_of_ble_eq_true rfl) d_M_start_25 ⟨Nat.le_of_ble_eq_true rfl, Nat.le_of_ble_eq_true rfl⟩ (fun r u H locs hp hP hS => ?_)
        obtain ⟨hu, rfl⟩ := hp
        rw [hu] at hP
        refine lv_istore (lv' := [(5, .int (mLook (mSt w j q t F i) (((mSt w j q t F i) 4) q) (((mSt w j q t F i) 5) q) i F)), (4, .int (nI i)), (0, .ref (ad 0)), (1, .int (nI j)), (2, .int (nI q)), (3, .int t)]) S.1 S.2.1 d_M_start_28 hl (by decide) rfl (fun ls hl => ?_)
        refine lv_iload S.1 S.2.1 d_M_start_30 (lv_at hl 0 rfl) ?_
        refine lv_if_lt (tgt := 126) S.1 S.2.1 d_M_start_32 (by decide) (fun c_l => ?_) (fun c_l => ?_)
        · refine lv_iinc (v := nI (i + 1)) (lv' := [(4, .int (nI (i + 1))), (5, .int (mLook (mSt w j q t F i) (((mSt w j q t F i) 4) q) (((mSt w j q t F i) 5) q) i F)), (0, .ref (ad 0)), (1, .int (nI j)), (2, .int (nI q)), (3, .int t)]) S.1 S.2.1 d_M_start_126 hl (k := 1) rfl (nI_1 i) (by decide) rfl (fun ls hl => ?_)
          refine lv_goto (tgt := 3) S.1 S.2.1 d_M_start_129 (by decide) ?_
          exact ih _ _ ls (by rw [mSt, if_pos c_l]; exact hP) hS (lv_sub hl [0, 2, 3, 4, 5] rfl)
        · refine lv_bipush (v := 64) S.1 S.2.1 d_M_start_35 (by decide) ?_
          refine lv_iload_n S.1 S.2.1 d_M_start_37 rfl (lv_at hl 3 rfl) ?_
          refine lv_imul S.1 S.2.1 d_M_start_38 ?_
          refine lv_iload S.1 S.2.1 d_M_start_39 (lv_at hl 1 rfl) ?_
          refine lv_iadd S.1 S.2.1 d_M_start_41 ?_
          rw [ix64 j i]
          refine lv_istore (lv' := [(6, .int (nI (64 * j + i))), (5, .int (mLook (mSt w j q t F i) (((mSt w j q t F i) 4) q) (((mSt w j q t F i) 5) q) i F)), (4, .int (nI i)), (0, .ref (ad 0)), (1, .int (nI j)), (2, .int (nI q)), (3, .int t)]) S.1 S.2.1 d_M_start_42 hl (by decide) rfl (fun ls hl => ?_)
          refine lv_aload_n S.1 S.2.1 d_M_start_44 rfl (lv_at hl 3 rfl) ?_
          refine lv_iload_n S.1 S.2.1 d_M_start_45 rfl (lv_at hl 4 rfl) ?_
          refine lv_iload S.1 S.2.1 d_M_start_46 (lv_at hl 2 rfl) ?_
          refine lv_iload_n S.1 S.2.1 d_M_start_48 rfl (lv_at hl 6 rfl) ?_
          refine uVi (n := 3) (b := 0) (As := [.int (nI j), .int (nI i), .int t]) (rest := []) S hK hN hP hS (c_M_levelAt hJ (mSt w j q t F i) j i hj (by omega) t ho) ⟨hU, t4_158, t4_155, t1_8, by decide +kernel, by decide, by decide⟩ t4_157 tp_35 (by decide) mg_obj rfl rfl rfl hl.1 rfl (Nat.le_of_ble_eq_true rfl) d_M_start_49 ⟨Nat.le_of_ble_eq_true rfl, Nat.le_of_ble_eq_true rfl⟩ (fun r u H locs hp hP hS => ?_)
          obtain ⟨hu, rfl⟩ := hp
          rw [hu] at hP
          refine lv_istore (lv' := [(7, .int (mAt (mSt w j q t F i) (64 * j + i) t)), (6, .int (nI (64 * j + i))), (5, .int (mLook (mSt w j q t F i) (((mSt w j q t F i) 4) q) (((mSt w j q t F i) 5) q) i F)), (4, .int (nI i)), (0, .ref (ad 0)), (1, .int (nI j)), (2, .int (nI q)), (3, .int t)]) S.1 S.2.1 d_M_start_52 hl (by decide) rfl (fun ls hl => ?_)
          refine lv_aload_n S.1 S.2.1 d_M_start_54 rfl (lv_at hl 4 rfl) ?_
          refine ur_get (k := 0) (v := .ref (ad 17)) S hK hP (by decide) mg_obj rfl (fun w h => hU w (in_M w h)) 17 (by decide) (hU _ t3_177) rfl d_M_start_55 ?_
          refine lv_iload S.1 S.2.1 d_M_start_58 (lv_at hl 1 rfl) ?_
          refine lv_iload S.1 S.2.1 d_M_start_60 (lv_at hl 0 rfl) ?_
          refine lv_i2s (v := s16 (mAt (mSt w j q t F i) (64 * j + i) t)) S.1 S.2.1 d_M_start_62 rfl ?_
          refine ur_sast (k := 17) (n := 384) (f := ((mSt w j q t F i) 17)) (j := (64 * j + i)) (g' := mG ca ad (up2 (mSt w j q t F i) 17 (64 * j + i) (s16 (mAt (mSt w j q t F i) (64 * j + i) t)))) S hK hP (uD _ hJ) hS (by decide) 4 (mg_arr 17 (by decide)) rfl rfl (by omega) (by decide) (s16_nar _) (ms_arr 17 (by decide) (by decide) (by decide)) d_M_start_63 (fun H locs hP hS => ?_)
          refine lv_aload_n S.1 S.2.1 d_M_start_64 rfl (lv_at hl 4 rfl) ?_
          refine ur_get (k := 0) (v := .ref (ad 18)) S hK hP (by decide) mg_obj rfl (fun w h => hU w (in_M w h)) 18 (by decide) (hU _ t3_178) rfl d_M_start_65 ?_
          refine lv_iload S.1 S.2.1 d_M_start_68 (lv_at hl 1 rfl) ?_
          refine lv_iload S.1 S.2.1 d_M_start_70 (lv_at hl 2 rfl) ?_
          refine lv_i2s (v := s16 (mLook (mSt w j q t F i) (((mSt w j q t F i) 4) q) (((mSt w j q t F i) 5) q) i F)) S.1 S.2.1 d_M_start_72 rfl ?_
          refine ur_sast (k := 18) (n := 384) (f := ((up2 (mSt w j q t F i) 17 (64 * j + i) (s16 (mAt (mSt w j q t F i) (64 * j + i) t))) 18)) (j := (64 * j + i)) (g' := mG ca ad (up2 (up2 (mSt w j q t F i) 17 (64 * j + i) (s16 (mAt (mSt w j q t F i) (64 * j + i) t))) 18 (64 * j + i) (s16 (mLook (mSt w j q t F i) (((mSt w j q t F i) 4) q) (((mSt w j q t F i) 5) q) i F)))) S hK hP (uD _ hJ) hS (by decide) 4 (mg_arr 18 (by decide)) rfl rfl (by omega) (by decide) (s16_nar _) (ms_arr 18 (by decide) (by decide) (by decide)) d_M_start_73 (fun H locs hP hS => ?_)
          refine lv_aload_n S.1 S.2.1 d_M_start_74 rfl (lv_at hl 4 rfl) ?_
          refine ur_get (k := 0) (v := .ref (ad 19)) S hK hP (by decide) mg_obj rfl (fun w h => hU w (in_M w h)) 19 (by decide) (hU _ t3_179) rfl d_M_start_75 ?_
          refine lv_iload S.1 S.2.1 d_M_start_78 (lv_at hl 1 rfl) ?_
          refine lv_iload_n S.1 S.2.1 d_M_start_80 rfl (lv_at hl 7 rfl) ?_
          refine lv_aload_n S.1 S.2.1 d_M_start_81 rfl (lv_at hl 4 rfl) ?_
          refine ur_get (k := 0) (v := .ref (ad 8)) S hK hP (by decide) mg_obj rfl (fun w h => hU w (in_M w h)) 8 (by decide) (hU _ t3_168) rfl d_M_start_82 ?_
          refine lv_iload_n S.1 S.2.1 d_M_start_85 rfl (lv_at hl 6 rfl) ?_
          refine ur_iald (k := 8) (n := 40) (f := ((up2 (up2 (mSt w j q t F i) 17 (64 * j + i) (s16 (mAt (mSt w j q t F i) (64 * j + i) t))) 18 (64 * j + i) (s16 (mLook (mSt w j q t F i) (((mSt w j q t F i) 4) q) (((mSt w j q t F i) 5) q) i F))) 8)) (j := q) S hK hP (by decide) 0 (mg_arr 8 (by decide)) rfl rfl hq (by decide) d_M_start_86 ?_
          simp only [up2_f (show 8 ≠ 17 by decide), up2_f (show 8 ≠ 18 by decide), up2_f (show 8 ≠ 19 by decide), up2_f (show 8 ≠ 14 by decide), up2_f (show 8 ≠ 15 by decide), up2_f (show 8 ≠ 16 by decide)]
          refine lv_iadd S.1 S.2.1 d_M_start_87 ?_
          refine ur_iast (k := 19) (n := 384) (f := ((up2 (up2 (mSt w j q t F i) 17 (64 * j + i) (s16 (mAt (mSt w j q t F i) (64 * j + i) t))) 18 (64 * j + i) (s16 (mLook (mSt w j q t F i) (((mSt w j q t F i) 4) q) (((mSt w j q t F i) 5) q) i F))) 19)) (j := (64 * j + i)) (g' := mG ca ad (up2 (up2 (up2 (mSt w j q t F i) 17 (64 * j + i) (s16 (mAt (mSt w j q t F i) (64 * j + i) t))) 18 (64 * j + i) (s16 (mLook (mSt w j q t F i) (((mSt w j q t F i) 4) q) (((mSt w j q t F i) 5) q) i F))) 19 (64 * j + i) (t + ((mSt w j q t F i) 8 q)))) S hK hP (uD _ hJ) hS (by decide) 0 (mg_arr 19 (by decide)) rfl rfl (by omega) (by decide) (ms_arr 19 (by decide) (by decide) (by decide)) d_M_start_88 (fun H locs hP hS => ?_)
          refine lv_aload_n S.1 S.2.1 d_M_start_89 rfl (lv_at hl 4 rfl) ?_
          refine ur_get (k := 0) (v := .ref (ad 20)) S hK hP (by decide) mg_obj rfl (fun w h => hU w (in_M w h)) 20 (by decide) (hU _ t3_180) rfl d_M_start_90 ?_
          refine lv_iload S.1 S.2.1 d_M_start_93 (lv_at hl 1 rfl) ?_
          refine lv_iload S.1 S.2.1 d_M_start_95 (lv_at hl 2 rfl) ?_
          refine lv_iload S.1 S.2.1 d_M_start_97 (lv_at hl 0 rfl) ?_
          refine lv_icmp_lt (tgt := 111) S.1 S.2.1 d_M_start_99 (by decide) (fun c_d => ?_) (fun c_d => ?_)
          · refine lv_aload_n S.1 S.2.1 d_M_start_111 rfl (lv_at hl 4 rfl) ?_
            refine ur_get (k := 0) (v := .ref (ad 7)) S hK hP (by decide) mg_obj rfl (fun w h => hU w (in_M w h)) 7 (by decide) (hU _ t3_167) rfl d_M_start_112 ?_
            refine lv_iload_n S.1 S.2.1 d_M_start_115 rfl (lv_at hl 6 rfl) ?_
            refine ur_iald (k := 7) (n := 40) (f := ((up2 (up2 (up2 (mSt w j q t F i) 17 (64 * j + i) (s16 (mAt (mSt w j q t F i) (64 * j + i) t))) 18 (64 * j + i) (s16 (mLook (mSt w j q t F i) (((mSt w j q t F i) 4) q) (((mSt w j q t F i) 5) q) i F))) 19 (64 * j + i) (t + ((mSt w j q t F i) 8 q))) 7)) (j := q) S hK hP (by decide) 0 (mg_arr 7 (by decide)) rfl rfl hq (by decide) d_M_start_116 ?_
            refine ur_iast (k := 20) (n := 384) (f := ((up2 (up2 (up2 (mSt w j q t F i) 17 (64 * j + i) (s16 (mAt (mSt w j q t F i) (64 * j + i) t))) 18 (64 * j + i) (s16 (mLook (mSt w j q t F i) (((mSt w j q t F i) 4) q) (((mSt w j q t F i) 5) q) i F))) 19 (64 * j + i) (t + ((mSt w j q t F i) 8 q))) 20)) (j := (64 * j + i)) (g' := mG ca ad (up2 (up2 (up2 (up2 (mSt w j q t F i) 17 (64 * j + i) (s16 (mAt (mSt w j q t F i) (64 * j + i) t))) 18 (64 * j + i) (s16 (mLook (mSt w j q t F i) (((mSt w j q t F i) 4) q) (((mSt w j q t F i) 5) q) i F))) 19 (64 * j + i) (t + ((mSt w j q t F i) 8 q))) 20 (64 * j + i) (((up2 (up2 (up2 (mSt w j q t F i) 17 (64 * j + i) (s16 (mAt (mSt w j q t F i) (64 * j + i) t))) 18 (64 * j + i) (s16 (mLook (mSt w j q t F i) (((mSt w j q t F i) 4) q) (((mSt w j q t F i) 5) q) i F))) 19 (64 * j + i) (t + ((mSt w j q t F i) 8 q))) 7) q))) S hK hP (uD _ hJ) hS (by decide) 0 (mg_arr 20 (by decide)) rfl rfl (by omega) (by decide) (ms_arr 20 (by decide) (by decide) (by decide)) d_M_start_117 (fun H locs hP hS => ?_)
            refine lv_aload_n S.1 S.2.1 d_M_start_118 rfl (lv_at hl 4 rfl) ?_
            refine ur_get (k := 0) (v := .ref (ad 21)) S hK hP (by decide) mg_obj rfl (fun w h => hU w (in_M w h)) 21 (by decide) (hU _ t3_181) rfl d_M_start_119 ?_
            refine lv_iload S.1 S.2.1 d_M_start_122 (lv_at hl 1 rfl) ?_
            refine lv_iload_n S.1 S.2.1 d_M_start_124 rfl (lv_at hl 7 rfl) ?_
            refine ur_iast (k := 21) (n := 384) (f := ((up2 (up2 (up2 (up2 (mSt w j q t F i) 17 (64 * j + i) (s16 (mAt (mSt w j q t F i) (64 * j + i) t))) 18 (64 * j + i) (s16 (mLook (mSt w j q t F i) (((mSt w j q t F i) 4) q) (((mSt w j q t F i) 5) q) i F))) 19 (64 * j + i) (t + ((mSt w j q t F i) 8 q))) 20 (64 * j + i) (((up2 (up2 (up2 (mSt w j q t F i) 17 (64 * j + i) (s16 (mAt (mSt w j q t F i) (64 * j + i) t))) 18 (64 * j + i) (s16 (mLook (mSt w j q t F i) (((mSt w j q t F i) 4) q) (((mSt w j q t F i) 5) q) i F))) 19 (64 * j + i) (t + ((mSt w j q t F i) 8 q))) 7) q)) 21)) (j := (64 * j + i)) (g' := mG ca ad (up2 (up2 (up2 (up2 (up2 (mSt w j q t F i) 17 (64 * j + i) (s16 (mAt (mSt w j q t F i) (64 * j + i) t))) 18 (64 * j + i) (s16 (mLook (mSt w j q t F i) (((mSt w j q t F i) 4) q) (((mSt w j q t F i) 5) q) i F))) 19 (64 * j + i) (t + ((mSt w j q t F i) 8 q))) 20 (64 * j + i) (((up2 (up2 (up2 (mSt w j q t F i) 17 (64 * j + i) (s16 (mAt (mSt w j q t F i) (64 * j + i) t))) 18 (64 * j + i) (s16 (mLook (mSt w j q t F i) (((mSt w j q t F i) 4) q) (((mSt w j q t F i) 5) q) i F))) 19 (64 * j + i) (t + ((mSt w j q t F i) 8 q))) 7) q)) 21 (64 * j + i) t)) S hK hP (uD _ hJ) hS (by decide) 0 (mg_arr 21 (by decide)) rfl rfl (by omega) (by decide) (ms_arr 21 (by decide) (by decide) (by decide)) d_M_start_125 (fun H locs hP hS => ?_)
            refine lv_iinc (v := nI (i + 1)) (lv' := [(4, .int (nI (i + 1))), (7, .int (mAt (mSt w j q t F i) (64 * j + i) t)), (6, .int (nI (64 * j + i))), (5, .int (mLook (mSt w j q t F i) (((mSt w j q t F i) 4) q) (((mSt w j q t F i) 5) q) i F)), (0, .ref (ad 0)), (1, .int (nI j)), (2, .int (nI q)), (3, .int t)]) S.1 S.2.1 d_M_start_126 hl (k := 3) rfl (nI_1 i) (by decide) rfl (fun ls hl => ?_)
            refine lv_goto (tgt := 3) S.1 S.2.1 d_M_start_129 (by decide) ?_
            exact ih _ _ ls (by rw [mSt, if_neg c_l]; unfold mFd; (first | rw [if_pos c_d] | rw [if_neg c_d]); exact hP) hS (lv_sub hl [0, 4, 5, 6, 7] rfl)
          · refine lv_aload_n S.1 S.2.1 d_M_start_102 rfl (lv_at hl 4 rfl) ?_
            refine ur_get (k := 0) (v := .ref (ad 6)) S hK hP (by decide) mg_obj rfl (fun w h => hU w (in_M w h)) 6 (by decide) (hU _ t3_166) rfl d_M_start_103 ?_
            refine lv_iload_n S.1 S.2.1 d_M_start_106 rfl (lv_at hl 6 rfl) ?_
            refine ur_iald (k := 6) (n := 40) (f := ((up2 (up2 (up2 (mSt w j q t F i) 17 (64 * j + i) (s16 (mAt (mSt w j q t F i) (64 * j + i) t))) 18 (64 * j + i) (s16 (mLook (mSt w j q t F i) (((mSt w j q t F i) 4) q) (((mSt w j q t F i) 5) q) i F))) 19 (64 * j + i) (t + ((mSt w j q t F i) 8 q))) 6)) (j := q) S hK hP (by decide) 0 (mg_arr 6 (by decide)) rfl rfl hq (by decide) d_M_start_107 ?_
            simp only [up2_f (show 6 ≠ 17 by decide), up2_f (show 6 ≠ 18 by decide), up2_f (show 6 ≠ 19 by decide), up2_f (show 6 ≠ 14 by decide), up2_f (show 6 ≠ 15 by decide), up2_f (show 6 ≠ 16 by decide)]
            refine lv_goto (tgt := 117) S.1 S.2.1 d_M_start_108 (by decide) ?_
            refine ur_iast (k := 20) (n := 384) (f := ((up2 (up2 (up2 (mSt w j q t F i) 17 (64 * j + i) (s16 (mAt (mSt w j q t F i) (64 * j + i) t))) 18 (64 * j + i) (s16 (mLook (mSt w j q t F i) (((mSt w j q t F i) 4) q) (((mSt w j q t F i) 5) q) i F))) 19 (64 * j + i) (t + ((mSt w j q t F i) 8 q))) 20)) (j := (64 * j + i)) (g' := mG ca ad (up2 (up2 (up2 (up2 (mSt w j q t F i) 17 (64 * j + i) (s16 (mAt (mSt w j q t F i) (64 * j + i) t))) 18 (64 * j + i) (s16 (mLook (mSt w j q t F i) (((mSt w j q t F i) 4) q) (((mSt w j q t F i) 5) q) i F))) 19 (64 * j + i) (t + ((mSt w j q t F i) 8 q))) 20 (64 * j + i) ((mSt w j q t F i) 6 q))) S hK hP (uD _ hJ) hS (by decide) 0 (mg_arr 20 (by decide)) rfl rfl (by omega) (by decide) (ms_arr 20 (by decide) (by decide) (by decide)) d_M_start_117 (fun H locs hP hS => ?_)
            refine lv_aload_n S.1 S.2.1 d_M_start_118 rfl (lv_at hl 4 rfl) ?_
            refine ur_get (k := 0) (v := .ref (ad 21)) S hK hP (by decide) mg_obj rfl (fun w h => hU w (in_M w h)) 21 (by decide) (hU _ t3_181) rfl d_M_start_119 ?_
            refine lv_iload S.1 S.2.1 d_M_start_122 (lv_at hl 1 rfl) ?_
            refine lv_iload_n S.1 S.2.1 d_M_start_124 rfl (lv_at hl 7 rfl) ?_
            refine ur_iast (k := 21) (n := 384) (f := ((up2 (up2 (up2 (up2 (mSt w j q t F i) 17 (64 * j + i) (s16 (mAt (mSt w j q t F i) (64 * j + i) t))) 18 (64 * j + i) (s16 (mLook (mSt w j q t F i) (((mSt w j q t F i) 4) q) (((mSt w j q t F i) 5) q) i F))) 19 (64 * j + i) (t + ((mSt w j q t F i) 8 q))) 20 (64 * j + i) ((mSt w j q t F i) 6 q)) 21)) (j := (64 * j + i)) (g' := mG ca ad (up2 (up2 (up2 (up2 (up2 (mSt w j q t F i) 17 (64 * j + i) (s16 (mAt (mSt w j q t F i) (64 * j + i) t))) 18 (64 * j + i) (s16 (mLook (mSt w j q t F i) (((mSt w j q t F i) 4) q) (((mSt w j q t F i) 5) q) i F))) 19 (64 * j + i) (t + ((mSt w j q t F i) 8 q))) 20 (64 * j + i) ((mSt w j q t F i) 6 q)) 21 (64 * j + i) t)) S hK hP (uD _ hJ) hS (by decide) 0 (mg_arr 21 (by decide)) rfl rfl (by omega) (by decide) (ms_arr 21 (by decide) (by decide) (by decide)) d_M_start_125 (fun H locs hP hS => ?_)
            refine lv_iinc (v := nI (i + 1)) (lv' := [(4, .int (nI (i + 1))), (7, .int (mAt (mSt w j q t F i) (64 * j + i) t)), (6, .int (nI (64 * j + i))), (5, .int (mLook (mSt w j q t F i) (((mSt w j q t F i) 4) q) (((mSt w j q t F i) 5) q) i F)), (0, .ref (ad 0)), (1, .int (nI j)), (2, .int (nI q)), (3, .int t)]) S.1 S.2.1 d_M_start_126 hl (k := 3) rfl (nI_1 i) (by decide) rfl (fun ls hl => ?_)
            refine lv_goto (tgt := 3) S.1 S.2.1 d_M_start_129 (by decide) ?_
            exact ih _ _ ls (by rw [mSt, if_neg c_l]; unfold mFd; (first | rw [if_pos c_d] | rw [if_neg c_d]); exact hP) hS (lv_sub hl [0, 4, 5, 6, 7] rfl)
  exact L 0 (Nat.zero_le _) _ _ ls hP hS (lv_sub hl [0, 1, 2, 3, 4] rfl)
