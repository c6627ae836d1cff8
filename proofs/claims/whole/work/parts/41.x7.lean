/-! Long.bitCount, Math.max; update (printed by wip/gen/gen_x7.py) -/
set_option maxRecDepth 100000 in
set_option maxHeartbeats 4000000 in
theorem c_JL_bitCount {l : Launch} {D : va_G} {ca : Nat → ClassId} {ad : Nat → Nat} (hJ : uJ 165 ad) (v : Nat → Nat → Nat → Int32) (π : Nat → Nat) (x : Int64) : uMi l y_JL_bitCount b_JL_bitCount 2 (some .int) 0 0 D clsAll (tysAll ca) 165 ad (xG ca ad) (v, π) [.long x] (fun r u => u = (v, π) ∧ r = bcL x) := by
  refine uStart (by decide) (Nat.le_of_ble_eq_true rfl) ?_
  intro p e s m below meth c ls S hr hlk hK hN hP hl
  have hU : ∀ w ∈ uWS, w ∈ (Cond.code y_JL_bitCount b_JL_bitCount 2 (some .int) :: uWS) := fun w h => List.mem_cons_of_mem _ h
  have hS : va_S (uA 165 ad s.heap.size) s.heap s.heap [] := va_S.rf
  have hl : lv_has ls 2 [(0, .long x)] := hl
  refine lv_lload_n S.1 S.2.1 d_JL_bitCount_0 rfl (lv_at hl 0 rfl) ?_
  refine lv_lload_n S.1 S.2.1 d_JL_bitCount_1 rfl (lv_at hl 0 rfl) ?_
  refine lv_iconst (v := 1) S.1 S.2.1 d_JL_bitCount_2 (by decide) ?_
  refine lv_lushr S.1 S.2.1 d_JL_bitCount_3 rfl ?_
  refine lv_ldc2 (v := 6148914691236517205) S.1 S.2.1 S.2.2.2.1 (S.2.2.2.2 _ (hU _ t2_222)) d_JL_bitCount_4 ?_
  refine lv_land S.1 S.2.1 d_JL_bitCount_7 ?_
  refine lv_lsub S.1 S.2.1 d_JL_bitCount_8 ?_
  refine lv_topl (fun x_1 ex_1 => ?_)
  refine lv_lstore_n (lv' := [(0, .long x_1)]) S.1 S.2.1 d_JL_bitCount_9 rfl hl (by decide) rfl (fun ls hl => ?_)
  refine lv_lload_n S.1 S.2.1 d_JL_bitCount_10 rfl (lv_at hl 0 rfl) ?_
  refine lv_ldc2 (v := 3689348814741910323) S.1 S.2.1 S.2.2.2.1 (S.2.2.2.2 _ (hU _ t2_223)) d_JL_bitCount_11 ?_
  refine lv_land S.1 S.2.1 d_JL_bitCount_14 ?_
  refine lv_lload_n S.1 S.2.1 d_JL_bitCount_15 rfl (lv_at hl 0 rfl) ?_
  refine lv_iconst (v := 2) S.1 S.2.1 d_JL_bitCount_16 (by decide) ?_
  refine lv_lushr S.1 S.2.1 d_JL_bitCount_17 rfl ?_
  refine lv_ldc2 (v := 3689348814741910323) S.1 S.2.1 S.2.2.2.1 (S.2.2.2.2 _ (hU _ t2_223)) d_JL_bitCount_18 ?_
  refine lv_land S.1 S.2.1 d_JL_bitCount_21 ?_
  refine lv_ladd S.1 S.2.1 d_JL_bitCount_22 ?_
  refine lv_topl (fun x_2 ex_2 => ?_)
  refine lv_lstore_n (lv' := [(0, .long x_2)]) S.1 S.2.1 d_JL_bitCount_23 rfl hl (by decide) rfl (fun ls hl => ?_)
  refine lv_lload_n S.1 S.2.1 d_JL_bitCount_24 rfl (lv_at hl 0 rfl) ?_
  refine lv_lload_n S.1 S.2.1 d_JL_bitCount_25 rfl (lv_at hl 0 rfl) ?_
  refine lv_iconst (v := 4) S.1 S.2.1 d_JL_bitCount_26 (by decide) ?_
  refine lv_lushr S.1 S.2.1 d_JL_bitCount_27 rfl ?_
  refine lv_ladd S.1 S.2.1 d_JL_bitCount_28 ?_
  refine lv_ldc2 (v := 1085102592571150095) S.1 S.2.1 S.2.2.2.1 (S.2.2.2.2 _ (hU _ t2_224)) d_JL_bitCount_29 ?_
  refine lv_land S.1 S.2.1 d_JL_bitCount_32 ?_
  refine lv_topl (fun x_3 ex_3 => ?_)
  refine lv_lstore_n (lv' := [(0, .long x_3)]) S.1 S.2.1 d_JL_bitCount_33 rfl hl (by decide) rfl (fun ls hl => ?_)
  refine lv_lload_n S.1 S.2.1 d_JL_bitCount_34 rfl (lv_at hl 0 rfl) ?_
  refine lv_lload_n S.1 S.2.1 d_JL_bitCount_35 rfl (lv_at hl 0 rfl) ?_
  refine lv_bipush (v := 8) S.1 S.2.1 d_JL_bitCount_36 (by decide) ?_
  refine lv_lushr S.1 S.2.1 d_JL_bitCount_38 rfl ?_
  refine lv_ladd S.1 S.2.1 d_JL_bitCount_39 ?_
  refine lv_topl (fun x_4 ex_4 => ?_)
  refine lv_lstore_n (lv' := [(0, .long x_4)]) S.1 S.2.1 d_JL_bitCount_40 rfl hl (by decide) rfl (fun ls hl => ?_)
  refine lv_lload_n S.1 S.2.1 d_JL_bitCount_41 rfl (lv_at hl 0 rfl) ?_
  refine lv_lload_n S.1 S.2.1 d_JL_bitCount_42 rfl (lv_at hl 0 rfl) ?_
  refine lv_bipush (v := 16) S.1 S.2.1 d_JL_bitCount_43 (by decide) ?_
  refine lv_lushr S.1 S.2.1 d_JL_bitCount_45 rfl ?_
  refine lv_ladd S.1 S.2.1 d_JL_bitCount_46 ?_
  refine lv_topl (fun x_5 ex_5 => ?_)
  refine lv_lstore_n (lv' := [(0, .long x_5)]) S.1 S.2.1 d_JL_bitCount_47 rfl hl (by decide) rfl (fun ls hl => ?_)
  refine lv_lload_n S.1 S.2.1 d_JL_bitCount_48 rfl (lv_at hl 0 rfl) ?_
  refine lv_lload_n S.1 S.2.1 d_JL_bitCount_49 rfl (lv_at hl 0 rfl) ?_
  refine lv_bipush (v := 32) S.1 S.2.1 d_JL_bitCount_50 (by decide) ?_
  refine lv_lushr S.1 S.2.1 d_JL_bitCount_52 rfl ?_
  refine lv_ladd S.1 S.2.1 d_JL_bitCount_53 ?_
  refine lv_topl (fun x_6 ex_6 => ?_)
  refine lv_lstore_n (lv' := [(0, .long x_6)]) S.1 S.2.1 d_JL_bitCount_54 rfl hl (by decide) rfl (fun ls hl => ?_)
  refine lv_lload_n S.1 S.2.1 d_JL_bitCount_55 rfl (lv_at hl 0 rfl) ?_
  refine lv_l2i S.1 S.2.1 d_JL_bitCount_56 rfl ?_
  refine lv_bipush (v := 127) S.1 S.2.1 d_JL_bitCount_57 (by decide) ?_
  refine lv_iand S.1 S.2.1 d_JL_bitCount_59 ?_
  have fx_1 : x_1 = bc1 x := ex_1
  have fx_2 : x_2 = bc2 x_1 := ex_2
  have fx_3 : x_3 = bc3 x_2 := ex_3
  have fx_4 : x_4 = bc4 8 x_3 := ex_4
  have fx_5 : x_5 = bc4 16 x_4 := ex_5
  have fx_6 : x_6 = bc4 32 x_5 := ex_6
  exact uIret S hr hlk (v, π) hP hS (by refine ⟨rfl, ?_⟩; rw [fx_6, fx_5, fx_4, fx_3, fx_2, fx_1]; rfl) d_JL_bitCount_60

set_option maxRecDepth 100000 in
set_option maxHeartbeats 4000000 in
theorem c_B_updateSources {l : Launch} {D : va_G} {ca : Nat → ClassId} {ad : Nat → Nat} (hJ : uJ 165 ad) (v : Nat → Nat → Nat → Int32) (π : Nat → Nat) (M : Nat) (hM : M = 64) (n : Nat) (hB : xBk v π n) (q : Nat) (hq : q < n) : uMi l y_B_updateSources b_B_updateSources 9 (some .int) 2 45 D clsAll (tysAll ca) 165 ad (xG ca ad) (v, π) [.ref (ad 4), .ref (ad 87), .int (nI q)] (fun r u => if mvs v π n + usc v π q 40 M ≤ 600 then u = (uss v π q 40 M, π) ∧ r = bcL (usl v π q 40 M) else u = (v, π) ∧ r = -1) := by
  refine uStart (by decide) (Nat.le_of_ble_eq_true rfl) ?_
  intro p e s m below meth c ls S hr hlk hK hN hP hl
  have hU : ∀ w ∈ uWS, w ∈ (Cond.code y_B_updateSources b_B_updateSources 9 (some .int) :: uWS) := fun w h => List.mem_cons_of_mem _ h
  have hS : va_S (uA 165 ad s.heap.size) s.heap s.heap [] := va_S.rf
  have hl : lv_has ls 9 [(0, .ref (ad 4)), (1, .ref (ad 87)), (2, .int (nI q))] := hl
  have hn40 : n ≤ 40 := hB.2.1
  refine lv_iconst (v := 0) S.1 S.2.1 d_B_updateSources_0 (by decide) ?_
  refine lv_istore_n (lv' := [(3, .int 0), (0, .ref (ad 4)), (1, .ref (ad 87)), (2, .int (nI q))]) S.1 S.2.1 d_B_updateSources_1 rfl hl (by decide) rfl (fun ls hl => ?_)
  refine lv_iconst (v := 0) S.1 S.2.1 d_B_updateSources_2 (by decide) ?_
  refine lv_istore (lv' := [(4, .int 0), (3, .int 0), (0, .ref (ad 4)), (1, .ref (ad 87)), (2, .int (nI q))]) S.1 S.2.1 d_B_updateSources_3 hl (by decide) rfl (fun ls hl => ?_)
  have L : ∀ i, i ≤ M → ∀ (H : Heap) (locs : List Loc) (ls : Array Slot), va_P D clsAll (uw 165 ad (xG ca ad (v, π))) H → va_S (uA 165 ad s.heap.size) s.heap H locs → lv_has ls 9 [(4, .int (nI i)), (3, .int (usc v π q 40 i)), (0, .ref (ad 4)), (1, .ref (ad 87)), (2, .int (nI q))] → uGi 2 45 D clsAll 165 ad (xG ca ad) (fun r u => if mvs v π n + usc v π q 40 M ≤ 600 then u = (uss v π q 40 M, π) ∧ r = bcL (usl v π q 40 M) else u = (v, π) ∧ r = -1) [.ref (ad 4), .ref (ad 87), .int (nI q)] p l e s m below meth c H locs 5 ls [] := by
    refine upTo M ?_ ?_
    · intro H locs ls hP hS hl
      refine lv_iload S.1 S.2.1 d_B_updateSources_5 (lv_at hl 0 rfl) ?_
      refine lv_bipush (v := 64) S.1 S.2.1 d_B_updateSources_7 (by decide) ?_
      refine lv_icmp_ge (tgt := 41) S.1 S.2.1 d_B_updateSources_9 (by decide) (fun c_h1 => ?_) (fun c_h1 => ?_)
      · refine lv_aload_n S.1 S.2.1 d_B_updateSources_41 rfl (lv_at hl 2 rfl) ?_
        refine uVi (n := 0) (b := 4) (As := []) (rest := []) S hK hN hP hS (c_B_moveCount hJ v π n hB) ⟨hU, t2_37, t2_136, t1_5, by decide +kernel, by decide, by decide⟩ t2_35 t2_36 (by decide) xg_book rfl rfl rfl hl.1 rfl (Nat.le_of_ble_eq_true rfl) d_B_updateSources_42 ⟨Nat.le_of_ble_eq_true rfl, Nat.le_of_ble_eq_true rfl⟩ (fun r u H locs hp hP hS => ?_)
        obtain ⟨rfl, rfl⟩ := hp
        refine lv_iload_n S.1 S.2.1 d_B_updateSources_45 rfl (lv_at hl 1 rfl) ?_
        refine lv_iadd S.1 S.2.1 d_B_updateSources_46 ?_
        refine lv_sipush (v := 600) S.1 S.2.1 d_B_updateSources_47 (by decide) ?_
        refine lv_icmp_le (tgt := 55) S.1 S.2.1 d_B_updateSources_50 (by decide) (fun c_m => ?_) (fun c_m => ?_)
        · refine lv_lconst (v := 0) S.1 S.2.1 d_B_updateSources_55 (by decide) ?_
          refine lv_lstore (lv' := [(4, .long 0), (3, .int (usc v π q 40 M)), (0, .ref (ad 4)), (1, .ref (ad 87)), (2, .int (nI q))]) S.1 S.2.1 d_B_updateSources_56 hl (by decide) rfl (fun ls hl => ?_)
          refine lv_iconst (v := 0) S.1 S.2.1 d_B_updateSources_58 (by decide) ?_
          refine lv_istore (lv' := [(6, .int 0), (4, .long 0), (3, .int (usc v π q 40 M)), (0, .ref (ad 4)), (1, .ref (ad 87)), (2, .int (nI q))]) S.1 S.2.1 d_B_updateSources_59 hl (by decide) rfl (fun ls hl => ?_)
          have L2 : ∀ i, i ≤ M → ∀ (H : Heap) (locs : List Loc) (ls : Array Slot), va_P D clsAll (uw 165 ad (xG ca ad ((uss v π q 40 i), π))) H → va_S (uA 165 ad s.heap.size) s.heap H locs → lv_has ls 9 [(6, .int (nI i)), (4, .long (usl v π q 40 i)), (0, .ref (ad 4)), (1, .ref (ad 87)), (2, .int (nI q))] → uGi 2 45 D clsAll 165 ad (xG ca ad) (fun r u => if mvs v π n + usc v π q 40 M ≤ 600 then u = (uss v π q 40 M, π) ∧ r = bcL (usl v π q 40 M) else u = (v, π) ∧ r = -1) [.ref (ad 4), .ref (ad 87), .int (nI q)] p l e s m below meth c H locs 61 ls [] := by
            refine upTo M ?_ ?_
            · intro H locs ls hP hS hl
              refine lv_iload S.1 S.2.1 d_B_updateSources_61 (lv_at hl 0 rfl) ?_
              refine lv_bipush (v := 64) S.1 S.2.1 d_B_updateSources_63 (by decide) ?_
              refine lv_icmp_ge (tgt := 136) S.1 S.2.1 d_B_updateSources_65 (by decide) (fun c_h2 => ?_) (fun c_h2 => ?_)
              · refine lv_lload S.1 S.2.1 d_B_updateSources_136 (lv_at hl 1 rfl) ?_
                refine uSi (n := 1) (As := [.long (usl v π q 40 M)]) (rest := []) S hK hN hP hS (c_JL_bitCount hJ (uss v π q 40 M) π (usl v π q 40 M)) ⟨hU, t2_221, t2_219, t1_15, by decide +kernel, by decide, by decide⟩ t2_220 rfl hl.1 rfl (Nat.le_of_ble_eq_true rfl) d_B_updateSources_138 ⟨Nat.le_of_ble_eq_true rfl, Nat.le_of_ble_eq_true rfl⟩ (fun r u H locs hp hP hS => ?_)
                obtain ⟨rfl, rfl⟩ := hp
                exact uIret S hr hlk ((uss v π q 40 M), π) hP hS (by rw [if_pos c_m]; exact ⟨rfl, rfl⟩) d_B_updateSources_141
              · exact absurd (by subst hM; exact nI_le (Nat.le_refl 64) (by decide)) c_h2
            · intro i hi ih H locs ls hP hS hl
              have hB := uss_bk (q := q) (k := 40) hB i
              refine lv_iload S.1 S.2.1 d_B_updateSources_61 (lv_at hl 0 rfl) ?_
              refine lv_bipush (v := 64) S.1 S.2.1 d_B_updateSources_63 (by decide) ?_
              refine lv_icmp_ge (tgt := 136) S.1 S.2.1 d_B_updateSources_65 (by decide) (fun c_h2 => ?_) (fun c_h2 => ?_)
              · exact absurd c_h2 (nI_ge (b := 64) (by omega) (by decide))
              · refine lv_aload_n S.1 S.2.1 d_B_updateSources_68 rfl (lv_at hl 3 rfl) ?_
                refine lv_iload S.1 S.2.1 d_B_updateSources_69 (lv_at hl 0 rfl) ?_
                refine uVi (n := 1) (b := (7 + 2 * 40)) (As := [.int (nI i)]) (rest := []) S hK hN hP hS (c_V_has hJ (uss v π q 40 i) π 40 i (by decide) (by omega)) ⟨hU, t2_135, t2_150, t1_2, by decide +kernel, by decide, by decide⟩ t2_133 t2_134 (kb_V (by decide)) (xg_row (by decide)) rfl rfl rfl hl.1 rfl (Nat.le_of_ble_eq_true rfl) d_B_updateSources_71 ⟨Nat.le_of_ble_eq_true rfl, Nat.le_of_ble_eq_true rfl⟩ (fun r u H locs hp hP hS => ?_)
                obtain ⟨rfl, rfl⟩ := hp
                refine lv_if_eq (tgt := 130) S.1 S.2.1 d_B_updateSources_74 (by decide) (fun c_b => ?_) (fun c_b => ?_)
                · have c_b := pI_no c_b
                  refine lv_iinc (v := nI (i + 1)) (lv' := [(6, .int (nI (i + 1))), (4, .long (usl v π q 40 i)), (0, .ref (ad 4)), (1, .ref (ad 87)), (2, .int (nI q))]) S.1 S.2.1 d_B_updateSources_130 hl (k := 0) rfl (nI_1 i) (by decide) rfl (fun ls hl => ?_)
                  refine lv_goto (tgt := 61) S.1 S.2.1 d_B_updateSources_133 (by decide) ?_
                  rw [show usl v π q 40 i = usl v π q 40 (i + 1) from by rw [usl, if_neg c_b]] at hl
                  exact ih _ _ ls (by rw [uss, if_neg c_b]; exact hP) hS (lv_sub hl [0, 1, 2, 3, 4] rfl)
                · have c_b := pI_yes c_b
                  refine lv_aload_n S.1 S.2.1 d_B_updateSources_77 rfl (lv_at hl 2 rfl) ?_
                  refine lv_iload_n S.1 S.2.1 d_B_updateSources_78 rfl (lv_at hl 4 rfl) ?_
                  refine lv_iload S.1 S.2.1 d_B_updateSources_79 (lv_at hl 0 rfl) ?_
                  refine uVi (n := 2) (b := 4) (As := [.int (nI q), .int (nI i)]) (rest := []) S hK hN hP hS (c_B_sourceOf hJ (uss v π q 40 i) π n hB (some q) (fun p h => by cases h; omega) i (by omega)) ⟨hU, t2_158, t2_155, t1_5, by decide +kernel, by decide, by decide⟩ t2_156 t2_157 (by decide) xg_book rfl rfl rfl hl.1 rfl (Nat.le_of_ble_eq_true rfl) d_B_updateSources_81 ⟨Nat.le_of_ble_eq_true rfl, Nat.le_of_ble_eq_true rfl⟩ (fun r u H locs hp hP hS => ?_)
                  obtain ⟨rfl, rfl⟩ := hp
                  rcases hX_1 : srcO (uss v π q 40 i) π i (some q) with _ | p_2
                  · refine lv_istore (lv' := [(7, .int (-1)), (6, .int (nI i)), (4, .long (usl v π q 40 i)), (0, .ref (ad 4)), (1, .ref (ad 87)), (2, .int (nI q))]) S.1 S.2.1 d_B_updateSources_84 hl (by decide) rfl (fun ls hl => ?_)
                    refine lv_iload S.1 S.2.1 d_B_updateSources_86 (lv_at hl 0 rfl) ?_
                    refine lv_iconst (v := (-1)) S.1 S.2.1 d_B_updateSources_88 (by decide) ?_
                    refine lv_icmp_ne (tgt := 96) S.1 S.2.1 d_B_updateSources_89 (by decide) (fun c_3 => ?_) (fun c_3 => ?_)
                    · exact absurd rfl c_3
                    · refine lv_iload_n S.1 S.2.1 d_B_updateSources_92 rfl (lv_at hl 5 rfl) ?_
                      refine lv_goto (tgt := 98) S.1 S.2.1 d_B_updateSources_93 (by decide) ?_
                      refine lv_istore (lv' := [(8, .int (nI q)), (7, .int (-1)), (6, .int (nI i)), (4, .long (usl v π q 40 i)), (0, .ref (ad 4)), (1, .ref (ad 87)), (2, .int (nI q))]) S.1 S.2.1 d_B_updateSources_98 hl (by decide) rfl (fun ls hl => ?_)
                      refine lv_aload_n S.1 S.2.1 d_B_updateSources_100 rfl (lv_at hl 4 rfl) ?_
                      refine ur_get (k := 4) (v := .ref (ad 5)) S hK hP (by decide) xg_book rfl (fun w h => hU w (in_B w h)) 0 (by decide) (hU _ t1_106) rfl d_B_updateSources_101 ?_
                      refine lv_iload S.1 S.2.1 d_B_updateSources_104 (lv_at hl 0 rfl) ?_
                      refine ur_aald (k := 5) (q := ad (89 + π q)) (j := q) S hK hP (by decide) 2 xg_cues rfl rfl (by omega) (by decide) rfl d_B_updateSources_106 ?_
                      refine ur_getN (k := (89 + (π q))) (v := .ref (ad (7 + 2 * (π q)))) S hK hP (kb_C (hB.2.2 _ (by omega))) (xg_cue (hB.2.2 _ (by omega))) rfl (fun w h => hU w (in_C w h)) 0 (by decide) (hN _ t1_74) rfl d_B_updateSources_107 ?_
                      refine lv_iload S.1 S.2.1 d_B_updateSources_110 (lv_at hl 2 rfl) ?_
                      refine lv_aload_n S.1 S.2.1 d_B_updateSources_112 rfl (lv_at hl 5 rfl) ?_
                      refine lv_iload S.1 S.2.1 d_B_updateSources_113 (lv_at hl 2 rfl) ?_
                      refine uVi (n := 1) (b := (7 + 2 * 40)) (As := [.int (nI i)]) (rest := [.int (nI i), .ref (ad (7 + 2 * (π q)))]) S hK hN hP hS (c_V_valueAt hJ (uss v π q 40 i) π 40 i (by decide) (by omega)) ⟨hU, t2_162, t2_159, t1_2, by decide +kernel, by decide, by decide⟩ t2_160 t2_161 (kb_V (by decide)) (xg_row (by decide)) rfl rfl rfl hl.1 rfl (Nat.le_of_ble_eq_true rfl) d_B_updateSources_115 ⟨Nat.le_of_ble_eq_true rfl, Nat.le_of_ble_eq_true rfl⟩ (fun r u H locs hp hP hS => ?_)
                      obtain ⟨rfl, rfl⟩ := hp
                      refine uVv (n := 2) (b := (7 + 2 * (π q))) (As := [.int (nI i), .int ((uss v π q 40 i) 17 40 i)]) (rest := []) S hK hN hP hS (c_V_put hJ (uss v π q 40 i) π (π q) i (Nat.lt_succ_of_lt (hB.2.2 _ (by omega))) (by omega) ((uss v π q 40 i) 17 40 i)) ⟨hU, t1_197, t2_166, t1_2, by decide +kernel, by decide, by decide⟩ t1_195 t1_196 (kb_V (Nat.lt_succ_of_lt (hB.2.2 _ (by omega)))) (xg_row (Nat.lt_succ_of_lt (hB.2.2 _ (by omega)))) rfl rfl rfl hl.1 rfl (Nat.le_of_ble_eq_true rfl) d_B_updateSources_118 ⟨Nat.le_of_ble_eq_true rfl, Nat.le_of_ble_eq_true rfl⟩ (fun u H locs hp hP hS => ?_)
                      obtain rfl := hp
                      refine lv_lload S.1 S.2.1 d_B_updateSources_121 (lv_at hl 3 rfl) ?_
                      refine lv_lconst (v := 1) S.1 S.2.1 d_B_updateSources_123 (by decide) ?_
                      refine lv_iload S.1 S.2.1 d_B_updateSources_124 (lv_at hl 0 rfl) ?_
                      refine lv_lshl S.1 S.2.1 d_B_updateSources_126 rfl ?_
                      refine lv_lor S.1 S.2.1 d_B_updateSources_127 ?_
                      refine lv_topl (fun x_4 ex_4 => ?_)
                      refine lv_lstore (lv' := [(4, .long x_4), (8, .int (nI q)), (7, .int (-1)), (6, .int (nI i)), (0, .ref (ad 4)), (1, .ref (ad 87)), (2, .int (nI q))]) S.1 S.2.1 d_B_updateSources_128 hl (by decide) rfl (fun ls hl => ?_)
                      refine lv_iinc (v := nI (i + 1)) (lv' := [(6, .int (nI (i + 1))), (4, .long x_4), (8, .int (nI q)), (7, .int (-1)), (0, .ref (ad 4)), (1, .ref (ad 87)), (2, .int (nI q))]) S.1 S.2.1 d_B_updateSources_130 hl (k := 3) rfl (nI_1 i) (by decide) rfl (fun ls hl => ?_)
                      refine lv_goto (tgt := 61) S.1 S.2.1 d_B_updateSources_133 (by decide) ?_
                      rw [show x_4 = usl v π q 40 (i + 1) from by rw [ex_4, usl, if_pos c_b, tgt, hX_1]; rfl] at hl
                      exact ih _ _ ls (by rw [uss, if_pos c_b, tgt, hX_1]; exact hP) hS (lv_sub hl [0, 1, 4, 5, 6] rfl)
                  · have hp_2 : p_2 < n := srcO_lt (fun p h => by cases h; omega) _ hX_1
                    refine lv_istore (lv' := [(7, .int (nI p_2)), (6, .int (nI i)), (4, .long (usl v π q 40 i)), (0, .ref (ad 4)), (1, .ref (ad 87)), (2, .int (nI q))]) S.1 S.2.1 d_B_updateSources_84 hl (by decide) rfl (fun ls hl => ?_)
                    refine lv_iload S.1 S.2.1 d_B_updateSources_86 (lv_at hl 0 rfl) ?_
                    refine lv_iconst (v := (-1)) S.1 S.2.1 d_B_updateSources_88 (by decide) ?_
                    refine lv_icmp_ne (tgt := 96) S.1 S.2.1 d_B_updateSources_89 (by decide) (fun c_5 => ?_) (fun c_5 => ?_)
                    · refine lv_iload S.1 S.2.1 d_B_updateSources_96 (lv_at hl 0 rfl) ?_
                      refine lv_istore (lv' := [(8, .int (nI p_2)), (7, .int (nI p_2)), (6, .int (nI i)), (4, .long (usl v π q 40 i)), (0, .ref (ad 4)), (1, .ref (ad 87)), (2, .int (nI q))]) S.1 S.2.1 d_B_updateSources_98 hl (by decide) rfl (fun ls hl => ?_)
                      refine lv_aload_n S.1 S.2.1 d_B_updateSources_100 rfl (lv_at hl 4 rfl) ?_
                      refine ur_get (k := 4) (v := .ref (ad 5)) S hK hP (by decide) xg_book rfl (fun w h => hU w (in_B w h)) 0 (by decide) (hU _ t1_106) rfl d_B_updateSources_101 ?_
                      refine lv_iload S.1 S.2.1 d_B_updateSources_104 (lv_at hl 0 rfl) ?_
                      refine ur_aald (k := 5) (q := ad (89 + π p_2)) (j := p_2) S hK hP (by decide) 2 xg_cues rfl rfl (by omega) (by decide) rfl d_B_updateSources_106 ?_
                      refine ur_getN (k := (89 + (π p_2))) (v := .ref (ad (7 + 2 * (π p_2)))) S hK hP (kb_C (hB.2.2 _ (by omega))) (xg_cue (hB.2.2 _ (by omega))) rfl (fun w h => hU w (in_C w h)) 0 (by decide) (hN _ t1_74) rfl d_B_updateSources_107 ?_
                      refine lv_iload S.1 S.2.1 d_B_updateSources_110 (lv_at hl 2 rfl) ?_
                      refine lv_aload_n S.1 S.2.1 d_B_updateSources_112 rfl (lv_at hl 5 rfl) ?_
                      refine lv_iload S.1 S.2.1 d_B_updateSources_113 (lv_at hl 2 rfl) ?_
                      refine uVi (n := 1) (b := (7 + 2 * 40)) (As := [.int (nI i)]) (rest := [.int (nI i), .ref (ad (7 + 2 * (π p_2)))]) S hK hN hP hS (c_V_valueAt hJ (uss v π q 40 i) π 40 i (by decide) (by omega)) ⟨hU, t2_162, t2_159, t1_2, by decide +kernel, by decide, by decide⟩ t2_160 t2_161 (kb_V (by decide)) (xg_row (by decide)) rfl rfl rfl hl.1 rfl (Nat.le_of_ble_eq_true rfl) d_B_updateSources_115 ⟨Nat.le_of_ble_eq_true rfl, Nat.le_of_ble_eq_true rfl⟩ (fun r u H locs hp hP hS => ?_)
                      obtain ⟨rfl, rfl⟩ := hp
                      refine uVv (n := 2) (b := (7 + 2 * (π p_2))) (As := [.int (nI i), .int ((uss v π q 40 i) 17 40 i)]) (rest := []) S hK hN hP hS (c_V_put hJ (uss v π q 40 i) π (π p_2) i (Nat.lt_succ_of_lt (hB.2.2 _ (by omega))) (by omega) ((uss v π q 40 i) 17 40 i)) ⟨hU, t1_197, t2_166, t1_2, by decide +kernel, by decide, by decide⟩ t1_195 t1_196 (kb_V (Nat.lt_succ_of_lt (hB.2.2 _ (by omega)))) (xg_row (Nat.lt_succ_of_lt (hB.2.2 _ (by omega)))) rfl rfl rfl hl.1 rfl (Nat.le_of_ble_eq_true rfl) d_B_updateSources_118 ⟨Nat.le_of_ble_eq_true rfl, Nat.le_of_ble_eq_true rfl⟩ (fun u H locs hp hP hS => ?_)
                      obtain rfl := hp
                      refine lv_lload S.1 S.2.1 d_B_updateSources_121 (lv_at hl 3 rfl) ?_
                      refine lv_lconst (v := 1) S.1 S.2.1 d_B_updateSources_123 (by decide) ?_
                      refine lv_iload S.1 S.2.1 d_B_updateSources_124 (lv_at hl 0 rfl) ?_
                      refine lv_lshl S.1 S.2.1 d_B_updateSources_126 rfl ?_
                      refine lv_lor S.1 S.2.1 d_B_updateSources_127 ?_
                      refine lv_topl (fun x_6 ex_6 => ?_)
                      refine lv_lstore (lv' := [(4, .long x_6), (8, .int (nI p_2)), (7, .int (nI p_2)), (6, .int (nI i)), (0, .ref (ad 4)), (1, .ref (ad 87)), (2, .int (nI q))]) S.1 S.2.1 d_B_updateSources_128 hl (by decide) rfl (fun ls hl => ?_)
                      refine lv_iinc (v := nI (i + 1)) (lv' := [(6, .int (nI (i + 1))), (4, .long x_6), (8, .int (nI p_2)), (7, .int (nI p_2)), (0, .ref (ad 4)), (1, .ref (ad 87)), (2, .int (nI q))]) S.1 S.2.1 d_B_updateSources_130 hl (k := 3) rfl (nI_1 i) (by decide) rfl (fun ls hl => ?_)
                      refine lv_goto (tgt := 61) S.1 S.2.1 d_B_updateSources_133 (by decide) ?_
                      rw [show x_6 = usl v π q 40 (i + 1) from by rw [ex_6, usl, if_pos c_b, tgt, hX_1]; rfl] at hl
                      exact ih _ _ ls (by rw [uss, if_pos c_b, tgt, hX_1]; exact hP) hS (lv_sub hl [0, 1, 4, 5, 6] rfl)
                    · exact absurd c_5 (nI_nm1 (by omega))
          exact L2 0 (Nat.zero_le _) _ _ ls hP hS (lv_sub hl [0, 1, 3, 4, 5] rfl)
        · refine lv_iconst (v := (-1)) S.1 S.2.1 d_B_updateSources_53 (by decide) ?_
          exact uIret S hr hlk (v, π) hP hS (by rw [if_neg c_m]; exact ⟨rfl, rfl⟩) d_B_updateSources_54
      · exact absurd (by subst hM; exact nI_le (Nat.le_refl 64) (by decide)) c_h1
    · intro i hi ih H locs ls hP hS hl
      refine lv_iload S.1 S.2.1 d_B_updateSources_5 (lv_at hl 0 rfl) ?_
      refine lv_bipush (v := 64) S.1 S.2.1 d_B_updateSources_7 (by decide) ?_
      refine lv_icmp_ge (tgt := 41) S.1 S.2.1 d_B_updateSources_9 (by decide) (fun c_h1 => ?_) (fun c_h1 => ?_)
      · exact absurd c_h1 (nI_ge (b := 64) (by omega) (by decide))
      · refine lv_aload_n S.1 S.2.1 d_B_updateSources_12 rfl (lv_at hl 3 rfl) ?_
        refine lv_iload S.1 S.2.1 d_B_updateSources_13 (lv_at hl 0 rfl) ?_
        refine uVi (n := 1) (b := (7 + 2 * 40)) (As := [.int (nI i)]) (rest := []) S hK hN hP hS (c_V_has hJ v π 40 i (by decide) (by omega)) ⟨hU, t2_135, t2_150, t1_2, by decide +kernel, by decide, by decide⟩ t2_133 t2_134 (kb_V (by decide)) (xg_row (by decide)) rfl rfl rfl hl.1 rfl (Nat.le_of_ble_eq_true rfl) d_B_updateSources_15 ⟨Nat.le_of_ble_eq_true rfl, Nat.le_of_ble_eq_true rfl⟩ (fun r u H locs hp hP hS => ?_)
        obtain ⟨rfl, rfl⟩ := hp
        refine lv_if_eq (tgt := 35) S.1 S.2.1 d_B_updateSources_18 (by decide) (fun c_a => ?_) (fun c_a => ?_)
        · have c_a := pI_no c_a
          refine lv_iinc (v := nI (i + 1)) (lv' := [(4, .int (nI (i + 1))), (3, .int (usc v π q 40 i)), (0, .ref (ad 4)), (1, .ref (ad 87)), (2, .int (nI q))]) S.1 S.2.1 d_B_updateSources_35 hl (k := 0) rfl (nI_1 i) (by decide) rfl (fun ls hl => ?_)
          refine lv_goto (tgt := 5) S.1 S.2.1 d_B_updateSources_38 (by decide) ?_
          rw [show usc v π q 40 i = usc v π q 40 (i + 1) from by rw [usc, if_neg (fun z => c_a z.1)]] at hl
          exact ih _ _ ls hP hS (lv_sub hl [0, 1, 2, 3, 4] rfl)
        · have c_a := pI_yes c_a
          refine lv_aload_n S.1 S.2.1 d_B_updateSources_21 rfl (lv_at hl 2 rfl) ?_
          refine lv_iload_n S.1 S.2.1 d_B_updateSources_22 rfl (lv_at hl 4 rfl) ?_
          refine lv_iload S.1 S.2.1 d_B_updateSources_23 (lv_at hl 0 rfl) ?_
          refine uVi (n := 2) (b := 4) (As := [.int (nI q), .int (nI i)]) (rest := []) S hK hN hP hS (c_B_sourceOf hJ v π n hB (some q) (fun p h => by cases h; omega) i (by omega)) ⟨hU, t2_158, t2_155, t1_5, by decide +kernel, by decide, by decide⟩ t2_156 t2_157 (by decide) xg_book rfl rfl rfl hl.1 rfl (Nat.le_of_ble_eq_true rfl) d_B_updateSources_25 ⟨Nat.le_of_ble_eq_true rfl, Nat.le_of_ble_eq_true rfl⟩ (fun r u H locs hp hP hS => ?_)
          obtain ⟨rfl, rfl⟩ := hp
          rcases hX_7 : srcO v π i (some q) with _ | p_8
          · refine lv_iconst (v := (-1)) S.1 S.2.1 d_B_updateSources_28 (by decide) ?_
            refine lv_icmp_ne (tgt := 35) S.1 S.2.1 d_B_updateSources_29 (by decide) (fun c_9 => ?_) (fun c_9 => ?_)
            · exact absurd rfl c_9
            · obtain ⟨x_10, ex_10⟩ : ∃ y : Int32, y = usc v π q 40 i + 1 := ⟨_, rfl⟩
              refine lv_iinc (v := x_10) (lv' := [(3, .int x_10), (4, .int (nI i)), (0, .ref (ad 4)), (1, .ref (ad 87)), (2, .int (nI q))]) S.1 S.2.1 d_B_updateSources_32 hl (k := 1) rfl (by rw [ex_10]; rfl) (by decide) rfl (fun ls hl => ?_)
              refine lv_iinc (v := nI (i + 1)) (lv' := [(4, .int (nI (i + 1))), (3, .int x_10), (0, .ref (ad 4)), (1, .ref (ad 87)), (2, .int (nI q))]) S.1 S.2.1 d_B_updateSources_35 hl (k := 1) rfl (nI_1 i) (by decide) rfl (fun ls hl => ?_)
              refine lv_goto (tgt := 5) S.1 S.2.1 d_B_updateSources_38 (by decide) ?_
              rw [ex_10, show usc v π q 40 i + 1 = usc v π q 40 (i + 1) from by rw [usc, if_pos ⟨c_a, hX_7⟩]] at hl
              exact ih _ _ ls hP hS (lv_sub hl [0, 1, 2, 3, 4] rfl)
          · have hp_8 : p_8 < n := srcO_lt (fun p h => by cases h; omega) _ hX_7
            refine lv_iconst (v := (-1)) S.1 S.2.1 d_B_updateSources_28 (by decide) ?_
            refine lv_icmp_ne (tgt := 35) S.1 S.2.1 d_B_updateSources_29 (by decide) (fun c_11 => ?_) (fun c_11 => ?_)
            · refine lv_iinc (v := nI (i + 1)) (lv' := [(4, .int (nI (i + 1))), (3, .int (usc v π q 40 i)), (0, .ref (ad 4)), (1, .ref (ad 87)), (2, .int (nI q))]) S.1 S.2.1 d_B_updateSources_35 hl (k := 0) rfl (nI_1 i) (by decide) rfl (fun ls hl => ?_)
              refine lv_goto (tgt := 5) S.1 S.2.1 d_B_updateSources_38 (by decide) ?_
              rw [show usc v π q 40 i = usc v π q 40 (i + 1) from by rw [usc, if_neg (fun z => by rw [hX_7] at z; exact nomatch z.2)]] at hl
              exact ih _ _ ls hP hS (lv_sub hl [0, 1, 2, 3, 4] rfl)
            · exact absurd c_11 (nI_nm1 (by omega))
  exact L 0 (Nat.zero_le _) _ _ ls hP hS (lv_sub hl [0, 1, 2, 3, 4] rfl)
