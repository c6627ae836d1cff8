/-! blockCue -/
set_option maxRecDepth 100000 in
set_option maxHeartbeats 4000000 in
theorem c_B_blockCue {l : Launch} {D : va_G} {ca : Nat → ClassId} {ad : Nat → Nat} (hJ : uJ 165 ad) (v : Nat → Nat → Nat → Int32) (π : Nat → Nat) (M : Nat) (hM : M = 64) (n : Nat) (hB : xBk v π n) (q : Nat) (hq : q < n) : uMi l y_B_blockCue b_B_blockCue 6 (some .int) 3 68 D clsAll (tysAll ca) 165 ad (xG ca ad) (v, π) [.ref (ad 4), .int (nI q)] (fun r u => if mvs v π n + bkc v π q M ≤ 600 then u = (bks v π q M, π) ∧ r = bks v π q M 16 (π q) 0 else u = (v, π) ∧ r = -1) := by
  refine uStart (by decide) (Nat.le_of_ble_eq_true rfl) ?_
  intro p e s m below meth c ls S hr hlk hK hN hP hl
  have hU : ∀ w ∈ uWS, w ∈ (Cond.code y_B_blockCue b_B_blockCue 6 (some .int) :: uWS) := fun w h => List.mem_cons_of_mem _ h
  have hS : va_S (uA 165 ad s.heap.size) s.heap s.heap [] := va_S.rf
  have hl : lv_has ls 6 [(0, .ref (ad 4)), (1, .int (nI q))] := hl
  have hn40 : n ≤ 40 := hB.2.1
  refine lv_aload_n S.1 S.2.1 d_B_blockCue_0 rfl (lv_at hl 0 rfl) ?_
  refine ur_get (k := 4) (v := .ref (ad 5)) S hK hP (by decide) xg_book rfl (fun w h => hU w (in_B w h)) 0 (by decide) (hU _ t1_106) rfl d_B_blockCue_1 ?_
  refine lv_iload_n S.1 S.2.1 d_B_blockCue_4 rfl (lv_at hl 1 rfl) ?_
  refine ur_aald (k := 5) (q := ad (89 + π q)) (j := q) S hK hP (by decide) 2 xg_cues rfl rfl (by omega) (by decide) rfl d_B_blockCue_5 ?_
  refine ur_getN (k := (89 + (π q))) (v := .ref (ad (7 + 2 * (π q)))) S hK hP (kb_C (hB.2.2 _ (by omega))) (xg_cue (hB.2.2 _ (by omega))) rfl (fun w h => hU w (in_C w h)) 0 (by decide) (hN _ t1_74) rfl d_B_blockCue_6 ?_
  refine lv_astore_n (lv' := [(2, .ref (ad (7 + 2 * (π q)))), (0, .ref (ad 4)), (1, .int (nI q))]) S.1 S.2.1 d_B_blockCue_9 rfl hl (by decide) rfl (fun ls hl => ?_)
  refine lv_iconst (v := 0) S.1 S.2.1 d_B_blockCue_10 (by decide) ?_
  refine lv_istore_n (lv' := [(3, .int 0), (2, .ref (ad (7 + 2 * (π q)))), (0, .ref (ad 4)), (1, .int (nI q))]) S.1 S.2.1 d_B_blockCue_11 rfl hl (by decide) rfl (fun ls hl => ?_)
  refine lv_iconst (v := 0) S.1 S.2.1 d_B_blockCue_12 (by decide) ?_
  refine lv_istore (lv' := [(4, .int 0), (3, .int 0), (2, .ref (ad (7 + 2 * (π q)))), (0, .ref (ad 4)), (1, .int (nI q))]) S.1 S.2.1 d_B_blockCue_13 hl (by decide) rfl (fun ls hl => ?_)
  have L : ∀ i, i ≤ M → ∀ (H : Heap) (locs : List Loc) (ls : Array Slot), va_P D clsAll (uw 165 ad (xG ca ad (v, π))) H → va_S (uA 165 ad s.heap.size) s.heap H locs → lv_has ls 6 [(4, .int (nI i)), (3, .int (bkc v π q i)), (2, .ref (ad (7 + 2 * π q))), (0, .ref (ad 4)), (1, .int (nI q))] → uGi 3 68 D clsAll 165 ad (xG ca ad) (fun r u => if mvs v π n + bkc v π q M ≤ 600 then u = (bks v π q M, π) ∧ r = bks v π q M 16 (π q) 0 else u = (v, π) ∧ r = -1) [.ref (ad 4), .int (nI q)] p l e s m below meth c H locs 15 ls [] := by
    refine upTo M ?_ ?_
    · intro H locs ls hP hS hl
      refine lv_iload S.1 S.2.1 d_B_blockCue_15 (lv_at hl 0 rfl) ?_
      refine lv_bipush (v := 64) S.1 S.2.1 d_B_blockCue_17 (by decide) ?_
      refine lv_icmp_ge (tgt := 51) S.1 S.2.1 d_B_blockCue_19 (by decide) (fun c_h1 => ?_) (fun c_h1 => ?_)
      · refine lv_aload_n S.1 S.2.1 d_B_blockCue_51 rfl (lv_at hl 3 rfl) ?_
        refine uVi (n := 0) (b := 4) (As := []) (rest := []) S hK hN hP hS (c_B_moveCount hJ v π n hB) ⟨hU, t2_37, t2_136, t1_5, by decide +kernel, by decide, by decide⟩ t2_35 t2_36 (by decide) xg_book rfl rfl rfl hl.1 rfl (Nat.le_of_ble_eq_true rfl) d_B_blockCue_52 ⟨Nat.le_of_ble_eq_true rfl, Nat.le_of_ble_eq_true rfl⟩ (fun r u H locs hp hP hS => ?_)
        obtain ⟨rfl, rfl⟩ := hp
        refine lv_iload_n S.1 S.2.1 d_B_blockCue_55 rfl (lv_at hl 1 rfl) ?_
        refine lv_iadd S.1 S.2.1 d_B_blockCue_56 ?_
        refine lv_sipush (v := 600) S.1 S.2.1 d_B_blockCue_57 (by decide) ?_
        refine lv_icmp_le (tgt := 65) S.1 S.2.1 d_B_blockCue_60 (by decide) (fun c_m => ?_) (fun c_m => ?_)
        · refine lv_iconst (v := 0) S.1 S.2.1 d_B_blockCue_65 (by decide) ?_
          refine lv_istore (lv' := [(4, .int 0), (3, .int (bkc v π q M)), (2, .ref (ad (7 + 2 * π q))), (0, .ref (ad 4)), (1, .int (nI q))]) S.1 S.2.1 d_B_blockCue_66 hl (by decide) rfl (fun ls hl => ?_)
          have L2 : ∀ i, i ≤ M → ∀ (H : Heap) (locs : List Loc) (ls : Array Slot), va_P D clsAll (uw 165 ad (xG ca ad ((bks v π q i), π))) H → va_S (uA 165 ad s.heap.size) s.heap H locs → lv_has ls 6 [(4, .int (nI i)), (2, .ref (ad (7 + 2 * π q))), (0, .ref (ad 4)), (1, .int (nI q))] → uGi 3 68 D clsAll 165 ad (xG ca ad) (fun r u => if mvs v π n + bkc v π q M ≤ 600 then u = (bks v π q M, π) ∧ r = bks v π q M 16 (π q) 0 else u = (v, π) ∧ r = -1) [.ref (ad 4), .int (nI q)] p l e s m below meth c H locs 68 ls [] := by
            refine upTo M ?_ ?_
            · intro H locs ls hP hS hl
              refine lv_iload S.1 S.2.1 d_B_blockCue_68 (lv_at hl 0 rfl) ?_
              refine lv_bipush (v := 64) S.1 S.2.1 d_B_blockCue_70 (by decide) ?_
              refine lv_icmp_ge (tgt := 104) S.1 S.2.1 d_B_blockCue_72 (by decide) (fun c_h2 => ?_) (fun c_h2 => ?_)
              · refine lv_aload_n S.1 S.2.1 d_B_blockCue_104 rfl (lv_at hl 1 rfl) ?_
                refine ur_getN (k := (7 + 2 * (π q))) (v := .int ((bks v π q M) 16 (π q) 0)) S hK hP (kb_V (Nat.lt_succ_of_lt (hB.2.2 _ (by omega)))) (xg_row (Nat.lt_succ_of_lt (hB.2.2 _ (by omega)))) rfl (fun w h => hU w (in_V w h)) 1 (by decide) (hN _ t1_37) rfl d_B_blockCue_105 ?_
                exact uIret S hr hlk ((bks v π q M), π) hP hS (by rw [if_pos c_m]; exact ⟨rfl, rfl⟩) d_B_blockCue_108
              · exact absurd (by subst hM; exact nI_le (Nat.le_refl 64) (by decide)) c_h2
            · intro i hi ih H locs ls hP hS hl
              have hB := bks_bk (q := q) hB i
              refine lv_iload S.1 S.2.1 d_B_blockCue_68 (lv_at hl 0 rfl) ?_
              refine lv_bipush (v := 64) S.1 S.2.1 d_B_blockCue_70 (by decide) ?_
              refine lv_icmp_ge (tgt := 104) S.1 S.2.1 d_B_blockCue_72 (by decide) (fun c_h2 => ?_) (fun c_h2 => ?_)
              · exact absurd c_h2 (nI_ge (b := 64) (by omega) (by decide))
              · refine lv_aload_n S.1 S.2.1 d_B_blockCue_75 rfl (lv_at hl 2 rfl) ?_
                refine lv_iload_n S.1 S.2.1 d_B_blockCue_76 rfl (lv_at hl 3 rfl) ?_
                refine lv_iload S.1 S.2.1 d_B_blockCue_77 (lv_at hl 0 rfl) ?_
                refine uVi (n := 2) (b := 4) (As := [.int (nI q), .int (nI i)]) (rest := []) S hK hN hP hS (c_B_trackedAt hJ (bks v π q i) π n hB (some q) (fun p h => by cases h; omega) i (by omega)) ⟨hU, t2_154, t2_151, t1_5, by decide +kernel, by decide, by decide⟩ t2_152 t2_153 (by decide) xg_book rfl rfl rfl hl.1 rfl (Nat.le_of_ble_eq_true rfl) d_B_blockCue_79 ⟨Nat.le_of_ble_eq_true rfl, Nat.le_of_ble_eq_true rfl⟩ (fun r u H locs hp hP hS => ?_)
                obtain ⟨rfl, rfl⟩ := hp
                refine lv_istore (lv' := [(5, .int (trk (bks v π q i) π i (some q))), (4, .int (nI i)), (2, .ref (ad (7 + 2 * π q))), (0, .ref (ad 4)), (1, .int (nI q))]) S.1 S.2.1 d_B_blockCue_82 hl (by decide) rfl (fun ls hl => ?_)
                refine lv_iload S.1 S.2.1 d_B_blockCue_84 (lv_at hl 0 rfl) ?_
                refine lv_iconst (v := (-1)) S.1 S.2.1 d_B_blockCue_86 (by decide) ?_
                refine lv_icmp_eq (tgt := 98) S.1 S.2.1 d_B_blockCue_87 (by decide) (fun c_t => ?_) (fun c_t => ?_)
                · refine lv_iinc (v := nI (i + 1)) (lv' := [(4, .int (nI (i + 1))), (5, .int (trk (bks v π q i) π i (some q))), (2, .ref (ad (7 + 2 * π q))), (0, .ref (ad 4)), (1, .int (nI q))]) S.1 S.2.1 d_B_blockCue_98 hl (k := 1) rfl (nI_1 i) (by decide) rfl (fun ls hl => ?_)
                  refine lv_goto (tgt := 68) S.1 S.2.1 d_B_blockCue_101 (by decide) ?_
                  exact ih _ _ ls (by rw [bks, if_pos c_t]; exact hP) hS (lv_sub hl [0, 2, 3, 4] rfl)
                · refine lv_aload_n S.1 S.2.1 d_B_blockCue_90 rfl (lv_at hl 2 rfl) ?_
                  refine lv_iload S.1 S.2.1 d_B_blockCue_91 (lv_at hl 1 rfl) ?_
                  refine lv_iload S.1 S.2.1 d_B_blockCue_93 (lv_at hl 0 rfl) ?_
                  refine uVv (n := 2) (b := (7 + 2 * (π q))) (As := [.int (nI i), .int (trk (bks v π q i) π i (some q))]) (rest := []) S hK hN hP hS (c_V_put hJ (bks v π q i) π (π q) i (Nat.lt_succ_of_lt (hB.2.2 _ (by omega))) (by omega) (trk (bks v π q i) π i (some q))) ⟨hU, t1_197, t2_166, t1_2, by decide +kernel, by decide, by decide⟩ t1_195 t1_196 (kb_V (Nat.lt_succ_of_lt (hB.2.2 _ (by omega)))) (xg_row (Nat.lt_succ_of_lt (hB.2.2 _ (by omega)))) rfl rfl rfl hl.1 rfl (Nat.le_of_ble_eq_true rfl) d_B_blockCue_95 ⟨Nat.le_of_ble_eq_true rfl, Nat.le_of_ble_eq_true rfl⟩ (fun u H locs hp hP hS => ?_)
                  obtain rfl := hp
                  refine lv_iinc (v := nI (i + 1)) (lv' := [(4, .int (nI (i + 1))), (5, .int (trk (bks v π q i) π i (some q))), (2, .ref (ad (7 + 2 * π q))), (0, .ref (ad 4)), (1, .int (nI q))]) S.1 S.2.1 d_B_blockCue_98 hl (k := 1) rfl (nI_1 i) (by decide) rfl (fun ls hl => ?_)
                  refine lv_goto (tgt := 68) S.1 S.2.1 d_B_blockCue_101 (by decide) ?_
                  exact ih _ _ ls (by rw [bks, if_neg c_t]; exact hP) hS (lv_sub hl [0, 2, 3, 4] rfl)
          exact L2 0 (Nat.zero_le _) _ _ ls hP hS (lv_sub hl [0, 2, 3, 4] rfl)
        · refine lv_iconst (v := (-1)) S.1 S.2.1 d_B_blockCue_63 (by decide) ?_
          exact uIret S hr hlk (v, π) hP hS (by rw [if_neg c_m]; exact ⟨rfl, rfl⟩) d_B_blockCue_64
      · exact absurd (by subst hM; exact nI_le (Nat.le_refl 64) (by decide)) c_h1
    · intro i hi ih H locs ls hP hS hl
      refine lv_iload S.1 S.2.1 d_B_blockCue_15 (lv_at hl 0 rfl) ?_
      refine lv_bipush (v := 64) S.1 S.2.1 d_B_blockCue_17 (by decide) ?_
      refine lv_icmp_ge (tgt := 51) S.1 S.2.1 d_B_blockCue_19 (by decide) (fun c_h1 => ?_) (fun c_h1 => ?_)
      · exact absurd c_h1 (nI_ge (b := 64) (by omega) (by decide))
      · refine lv_aload_n S.1 S.2.1 d_B_blockCue_22 rfl (lv_at hl 2 rfl) ?_
        refine lv_iload S.1 S.2.1 d_B_blockCue_23 (lv_at hl 0 rfl) ?_
        refine uVi (n := 1) (b := (7 + 2 * (π q))) (As := [.int (nI i)]) (rest := []) S hK hN hP hS (c_V_has hJ v π (π q) i (Nat.lt_succ_of_lt (hB.2.2 _ (by omega))) (by omega)) ⟨hU, t2_135, t2_150, t1_2, by decide +kernel, by decide, by decide⟩ t2_133 t2_134 (kb_V (Nat.lt_succ_of_lt (hB.2.2 _ (by omega)))) (xg_row (Nat.lt_succ_of_lt (hB.2.2 _ (by omega)))) rfl rfl rfl hl.1 rfl (Nat.le_of_ble_eq_true rfl) d_B_blockCue_25 ⟨Nat.le_of_ble_eq_true rfl, Nat.le_of_ble_eq_true rfl⟩ (fun r u H locs hp hP hS => ?_)
        obtain ⟨rfl, rfl⟩ := hp
        refine lv_if_ne (tgt := 45) S.1 S.2.1 d_B_blockCue_28 (by decide) (fun c_a => ?_) (fun c_a => ?_)
        · have c_a := pI_yes c_a
          refine lv_iinc (v := nI (i + 1)) (lv' := [(4, .int (nI (i + 1))), (3, .int (bkc v π q i)), (2, .ref (ad (7 + 2 * π q))), (0, .ref (ad 4)), (1, .int (nI q))]) S.1 S.2.1 d_B_blockCue_45 hl (k := 0) rfl (nI_1 i) (by decide) rfl (fun ls hl => ?_)
          refine lv_goto (tgt := 15) S.1 S.2.1 d_B_blockCue_48 (by decide) ?_
          rw [show bkc v π q i = bkc v π q (i + 1) from by rw [bkc, if_neg (fun z => c_a z.1)]] at hl
          exact ih _ _ ls hP hS (lv_sub hl [0, 1, 2, 3, 4] rfl)
        · have c_a := pI_no c_a
          refine lv_aload_n S.1 S.2.1 d_B_blockCue_31 rfl (lv_at hl 3 rfl) ?_
          refine lv_iload_n S.1 S.2.1 d_B_blockCue_32 rfl (lv_at hl 4 rfl) ?_
          refine lv_iload S.1 S.2.1 d_B_blockCue_33 (lv_at hl 0 rfl) ?_
          refine uVi (n := 2) (b := 4) (As := [.int (nI q), .int (nI i)]) (rest := []) S hK hN hP hS (c_B_sourceOf hJ v π n hB (some q) (fun p h => by cases h; omega) i (by omega)) ⟨hU, t2_158, t2_155, t1_5, by decide +kernel, by decide, by decide⟩ t2_156 t2_157 (by decide) xg_book rfl rfl rfl hl.1 rfl (Nat.le_of_ble_eq_true rfl) d_B_blockCue_35 ⟨Nat.le_of_ble_eq_true rfl, Nat.le_of_ble_eq_true rfl⟩ (fun r u H locs hp hP hS => ?_)
          obtain ⟨rfl, rfl⟩ := hp
          rcases hX_1 : srcO v π i (some q) with _ | p_2
          · refine lv_iconst (v := (-1)) S.1 S.2.1 d_B_blockCue_38 (by decide) ?_
            refine lv_icmp_eq (tgt := 45) S.1 S.2.1 d_B_blockCue_39 (by decide) (fun c_3 => ?_) (fun c_3 => ?_)
            · refine lv_iinc (v := nI (i + 1)) (lv' := [(4, .int (nI (i + 1))), (3, .int (bkc v π q i)), (2, .ref (ad (7 + 2 * π q))), (0, .ref (ad 4)), (1, .int (nI q))]) S.1 S.2.1 d_B_blockCue_45 hl (k := 0) rfl (nI_1 i) (by decide) rfl (fun ls hl => ?_)
              refine lv_goto (tgt := 15) S.1 S.2.1 d_B_blockCue_48 (by decide) ?_
              rw [show bkc v π q i = bkc v π q (i + 1) from by rw [bkc, if_neg (fun z => z.2 hX_1)]] at hl
              exact ih _ _ ls hP hS (lv_sub hl [0, 1, 2, 3, 4] rfl)
            · exact absurd rfl c_3
          · have hp_2 : p_2 < n := srcO_lt (fun p h => by cases h; omega) _ hX_1
            refine lv_iconst (v := (-1)) S.1 S.2.1 d_B_blockCue_38 (by decide) ?_
            refine lv_icmp_eq (tgt := 45) S.1 S.2.1 d_B_blockCue_39 (by decide) (fun c_4 => ?_) (fun c_4 => ?_)
            · exact absurd c_4 (nI_nm1 (by omega))
            · obtain ⟨x_5, ex_5⟩ : ∃ y : Int32, y = bkc v π q i + 1 := ⟨_, rfl⟩
              refine lv_iinc (v := x_5) (lv' := [(3, .int x_5), (4, .int (nI i)), (2, .ref (ad (7 + 2 * π q))), (0, .ref (ad 4)), (1, .int (nI q))]) S.1 S.2.1 d_B_blockCue_42 hl (k := 1) rfl (by rw [ex_5]; rfl) (by decide) rfl (fun ls hl => ?_)
              refine lv_iinc (v := nI (i + 1)) (lv' := [(4, .int (nI (i + 1))), (3, .int x_5), (2, .ref (ad (7 + 2 * π q))), (0, .ref (ad 4)), (1, .int (nI q))]) S.1 S.2.1 d_B_blockCue_45 hl (k := 1) rfl (nI_1 i) (by decide) rfl (fun ls hl => ?_)
              refine lv_goto (tgt := 15) S.1 S.2.1 d_B_blockCue_48 (by decide) ?_
              rw [ex_5, show bkc v π q i + 1 = bkc v π q (i + 1) from by rw [bkc, if_pos ⟨Decidable.not_not.mp c_a, by rw [hX_1]; exact (fun z => nomatch z)⟩]] at hl
              exact ih _ _ ls hP hS (lv_sub hl [0, 1, 2, 3, 4] rfl)
  exact L 0 (Nat.zero_le _) _ _ ls hP hS (lv_sub hl [0, 1, 2, 3, 4] rfl)
