/-! The class: edits of the book (printed by wip/gen/gen_x5.py) -/
set_option maxRecDepth 100000 in
set_option maxHeartbeats 4000000 in
theorem c_B_keepChannels {l : Launch} {D : va_G} {ca : Nat → ClassId} {ad : Nat → Nat} (hJ : uJ 165 ad) (v : Nat → Nat → Nat → Int32) (π : Nat → Nat) (M : Nat) (hM : M = 64) (n : Nat) (hB : xBk v π n) (q k : Nat) (hq : q < n) (hk : k < 41) : uMv l y_B_keepChannels b_B_keepChannels 5 (none : Option Jvm.ClassFile.FieldType) 3 68 D clsAll (tysAll ca) 165 ad (xG ca ad) (v, π) [.ref (ad 4), .int (nI q), .ref (ad (7 + 2 * k))] (fun u => u = (kp v π q k M, π)) := by
  refine uStart (by decide) (Nat.le_of_ble_eq_true rfl) ?_
  intro p e s m below meth c ls S hr hlk hK hN hP hl
  have hU : ∀ w ∈ uWS, w ∈ (Cond.code y_B_keepChannels b_B_keepChannels 5 (none : Option Jvm.ClassFile.FieldType) :: uWS) := fun w h => List.mem_cons_of_mem _ h
  have hS : va_S (uA 165 ad s.heap.size) s.heap s.heap [] := va_S.rf
  have hl : lv_has ls 5 [(0, .ref (ad 4)), (1, .int (nI q)), (2, .ref (ad (7 + 2 * k)))] := hl
  have hn40 : n ≤ 40 := hB.2.1
  refine lv_aload_n S.1 S.2.1 d_B_keepChannels_0 rfl (lv_at hl 0 rfl) ?_
  refine ur_get (k := 4) (v := .ref (ad 5)) S hK hP (by decide) xg_book rfl (fun w h => hU w (in_B w h)) 0 (by decide) (hU _ t1_106) rfl d_B_keepChannels_1 ?_
  refine lv_iload_n S.1 S.2.1 d_B_keepChannels_4 rfl (lv_at hl 1 rfl) ?_
  refine ur_aald (k := 5) (q := ad (89 + π q)) (j := q) S hK hP (by decide) 2 xg_cues rfl rfl (by omega) (by decide) rfl d_B_keepChannels_5 ?_
  refine ur_getN (k := (89 + (π q))) (v := .ref (ad (7 + 2 * (π q)))) S hK hP (kb_C (hB.2.2 _ (by omega))) (xg_cue (hB.2.2 _ (by omega))) rfl (fun w h => hU w (in_C w h)) 0 (by decide) (hN _ t1_74) rfl d_B_keepChannels_6 ?_
  refine lv_astore_n (lv' := [(3, .ref (ad (7 + 2 * (π q)))), (0, .ref (ad 4)), (1, .int (nI q)), (2, .ref (ad (7 + 2 * k)))]) S.1 S.2.1 d_B_keepChannels_9 rfl hl (by decide) rfl (fun ls hl => ?_)
  refine lv_iconst (v := 0) S.1 S.2.1 d_B_keepChannels_10 (by decide) ?_
  refine lv_istore (lv' := [(4, .int 0), (3, .ref (ad (7 + 2 * (π q)))), (0, .ref (ad 4)), (1, .int (nI q)), (2, .ref (ad (7 + 2 * k)))]) S.1 S.2.1 d_B_keepChannels_11 hl (by decide) rfl (fun ls hl => ?_)
  have L : ∀ i, i ≤ M → ∀ (H : Heap) (locs : List Loc) (ls : Array Slot), va_P D clsAll (uw 165 ad (xG ca ad ((kp v π q k i), π))) H → va_S (uA 165 ad s.heap.size) s.heap H locs → lv_has ls 5 [(4, .int (nI i)), (3, .ref (ad (7 + 2 * π q))), (0, .ref (ad 4)), (1, .int (nI q)), (2, .ref (ad (7 + 2 * k)))] → uGv 3 68 D clsAll 165 ad (xG ca ad) (fun u => u = (kp v π q k M, π)) [.ref (ad 4), .int (nI q), .ref (ad (7 + 2 * k))] p l e s m below meth c H locs 13 ls [] := by
    refine upTo M ?_ ?_
    · intro H locs ls hP hS hl
      refine lv_iload S.1 S.2.1 d_B_keepChannels_13 (lv_at hl 0 rfl) ?_
      refine lv_bipush (v := 64) S.1 S.2.1 d_B_keepChannels_15 (by decide) ?_
      refine lv_icmp_ge (tgt := 60) S.1 S.2.1 d_B_keepChannels_17 (by decide) (fun c_h => ?_) (fun c_h => ?_)
      · exact uVret S hr hlk ((kp v π q k M), π) hP hS (rfl) d_B_keepChannels_60
      · exact absurd (by subst hM; exact nI_le (Nat.le_refl 64) (by decide)) c_h
    · intro i hi ih H locs ls hP hS hl
      have hB := kp_bk (q := q) (k := k) hB i
      refine lv_iload S.1 S.2.1 d_B_keepChannels_13 (lv_at hl 0 rfl) ?_
      refine lv_bipush (v := 64) S.1 S.2.1 d_B_keepChannels_15 (by decide) ?_
      refine lv_icmp_ge (tgt := 60) S.1 S.2.1 d_B_keepChannels_17 (by decide) (fun c_h => ?_) (fun c_h => ?_)
      · exact absurd c_h (nI_ge (b := 64) (by omega) (by decide))
      · refine lv_aload_n S.1 S.2.1 d_B_keepChannels_20 rfl (lv_at hl 4 rfl) ?_
        refine lv_iload S.1 S.2.1 d_B_keepChannels_21 (lv_at hl 0 rfl) ?_
        refine uVi (n := 1) (b := (7 + 2 * k)) (As := [.int (nI i)]) (rest := []) S hK hN hP hS (c_V_has hJ (kp v π q k i) π k i hk (by omega)) ⟨hU, t2_135, t2_150, t1_2, by decide +kernel, by decide, by decide⟩ t2_133 t2_134 (kb_V hk) (xg_row hk) rfl rfl rfl hl.1 rfl (Nat.le_of_ble_eq_true rfl) d_B_keepChannels_23 ⟨Nat.le_of_ble_eq_true rfl, Nat.le_of_ble_eq_true rfl⟩ (fun r u H locs hp hP hS => ?_)
        obtain ⟨rfl, rfl⟩ := hp
        refine lv_if_eq (tgt := 54) S.1 S.2.1 d_B_keepChannels_26 (by decide) (fun c_a => ?_) (fun c_a => ?_)
        · have c_a := pI_no c_a
          refine lv_iinc (v := nI (i + 1)) (lv' := [(4, .int (nI (i + 1))), (3, .ref (ad (7 + 2 * π q))), (0, .ref (ad 4)), (1, .int (nI q)), (2, .ref (ad (7 + 2 * k)))]) S.1 S.2.1 d_B_keepChannels_54 hl (k := 0) rfl (nI_1 i) (by decide) rfl (fun ls hl => ?_)
          refine lv_goto (tgt := 13) S.1 S.2.1 d_B_keepChannels_57 (by decide) ?_
          exact ih _ _ ls (by rw [kp, if_neg (fun z => c_a z.1)]; exact hP) hS (lv_sub hl [0, 1, 2, 3, 4] rfl)
        · have c_a := pI_yes c_a
          refine lv_aload_n S.1 S.2.1 d_B_keepChannels_29 rfl (lv_at hl 1 rfl) ?_
          refine lv_iload S.1 S.2.1 d_B_keepChannels_30 (lv_at hl 0 rfl) ?_
          refine uVi (n := 1) (b := (7 + 2 * (π q))) (As := [.int (nI i)]) (rest := []) S hK hN hP hS (c_V_has hJ (kp v π q k i) π (π q) i (Nat.lt_succ_of_lt (hB.2.2 _ (by omega))) (by omega)) ⟨hU, t2_135, t2_150, t1_2, by decide +kernel, by decide, by decide⟩ t2_133 t2_134 (kb_V (Nat.lt_succ_of_lt (hB.2.2 _ (by omega)))) (xg_row (Nat.lt_succ_of_lt (hB.2.2 _ (by omega)))) rfl rfl rfl hl.1 rfl (Nat.le_of_ble_eq_true rfl) d_B_keepChannels_32 ⟨Nat.le_of_ble_eq_true rfl, Nat.le_of_ble_eq_true rfl⟩ (fun r u H locs hp hP hS => ?_)
          obtain ⟨rfl, rfl⟩ := hp
          refine lv_if_ne (tgt := 54) S.1 S.2.1 d_B_keepChannels_35 (by decide) (fun c_b => ?_) (fun c_b => ?_)
          · have c_b := pI_yes c_b
            refine lv_iinc (v := nI (i + 1)) (lv' := [(4, .int (nI (i + 1))), (3, .ref (ad (7 + 2 * π q))), (0, .ref (ad 4)), (1, .int (nI q)), (2, .ref (ad (7 + 2 * k)))]) S.1 S.2.1 d_B_keepChannels_54 hl (k := 0) rfl (nI_1 i) (by decide) rfl (fun ls hl => ?_)
            refine lv_goto (tgt := 13) S.1 S.2.1 d_B_keepChannels_57 (by decide) ?_
            exact ih _ _ ls (by rw [kp, if_neg (fun z => c_b z.2)]; exact hP) hS (lv_sub hl [0, 1, 2, 3, 4] rfl)
          · have c_b := pI_no c_b
            refine lv_aload_n S.1 S.2.1 d_B_keepChannels_38 rfl (lv_at hl 1 rfl) ?_
            refine lv_iload S.1 S.2.1 d_B_keepChannels_39 (lv_at hl 0 rfl) ?_
            refine lv_aload_n S.1 S.2.1 d_B_keepChannels_41 rfl (lv_at hl 2 rfl) ?_
            refine lv_iload_n S.1 S.2.1 d_B_keepChannels_42 rfl (lv_at hl 3 rfl) ?_
            refine lv_iload S.1 S.2.1 d_B_keepChannels_43 (lv_at hl 0 rfl) ?_
            refine uVi (n := 2) (b := 4) (As := [.int (nI q), .int (nI i)]) (rest := [.int (nI i), .ref (ad (7 + 2 * π q))]) S hK hN hP hS (c_B_trackedAt hJ (kp v π q k i) π n hB (some q) (fun p h => by cases h; omega) i (by omega)) ⟨hU, t2_154, t2_151, t1_5, by decide +kernel, by decide, by decide⟩ t2_152 t2_153 (by decide) xg_book rfl rfl rfl hl.1 rfl (Nat.le_of_ble_eq_true rfl) d_B_keepChannels_45 ⟨Nat.le_of_ble_eq_true rfl, Nat.le_of_ble_eq_true rfl⟩ (fun r u H locs hp hP hS => ?_)
            obtain ⟨rfl, rfl⟩ := hp
            refine uSi (n := 1) (As := [.int (trk (kp v π q k i) π i (some q))]) (rest := [.int (nI i), .ref (ad (7 + 2 * π q))]) S hK hN hP hS (c_B_orUnset hJ (kp v π q k i) π (trk (kp v π q k i) π i (some q))) ⟨hU, t2_165, t2_163, t1_5, by decide +kernel, by decide, by decide⟩ t2_164 rfl hl.1 rfl (Nat.le_of_ble_eq_true rfl) d_B_keepChannels_48 ⟨Nat.le_of_ble_eq_true rfl, Nat.le_of_ble_eq_true rfl⟩ (fun r u H locs hp hP hS => ?_)
            obtain ⟨rfl, rfl⟩ := hp
            refine uVv (n := 2) (b := (7 + 2 * (π q))) (As := [.int (nI i), .int (orU (trk (kp v π q k i) π i (some q)))]) (rest := []) S hK hN hP hS (c_V_put hJ (kp v π q k i) π (π q) i (Nat.lt_succ_of_lt (hB.2.2 _ (by omega))) (by omega) (orU (trk (kp v π q k i) π i (some q)))) ⟨hU, t1_197, t2_166, t1_2, by decide +kernel, by decide, by decide⟩ t1_195 t1_196 (kb_V (Nat.lt_succ_of_lt (hB.2.2 _ (by omega)))) (xg_row (Nat.lt_succ_of_lt (hB.2.2 _ (by omega)))) rfl rfl rfl hl.1 rfl (Nat.le_of_ble_eq_true rfl) d_B_keepChannels_51 ⟨Nat.le_of_ble_eq_true rfl, Nat.le_of_ble_eq_true rfl⟩ (fun u H locs hp hP hS => ?_)
            obtain rfl := hp
            refine lv_iinc (v := nI (i + 1)) (lv' := [(4, .int (nI (i + 1))), (3, .ref (ad (7 + 2 * π q))), (0, .ref (ad 4)), (1, .int (nI q)), (2, .ref (ad (7 + 2 * k)))]) S.1 S.2.1 d_B_keepChannels_54 hl (k := 0) rfl (nI_1 i) (by decide) rfl (fun ls hl => ?_)
            refine lv_goto (tgt := 13) S.1 S.2.1 d_B_keepChannels_57 (by decide) ?_
            exact ih _ _ ls (by rw [kp, if_pos ⟨c_a, Decidable.not_not.mp c_b⟩]; exact hP) hS (lv_sub hl [0, 1, 2, 3, 4] rfl)
  exact L 0 (Nat.zero_le _) _ _ ls hP hS (lv_sub hl [0, 1, 2, 3, 4] rfl)

set_option maxRecDepth 100000 in
set_option maxHeartbeats 4000000 in
theorem c_B_putAll {l : Launch} {D : va_G} {ca : Nat → ClassId} {ad : Nat → Nat} (hJ : uJ 165 ad) (v : Nat → Nat → Nat → Int32) (π : Nat → Nat) (M : Nat) (hM : M = 64) (n : Nat) (hB : xBk v π n) (q k : Nat) (hq : q < n) (hk : k < 41) : uMv l y_B_putAll b_B_putAll 4 (none : Option Jvm.ClassFile.FieldType) 1 22 D clsAll (tysAll ca) 165 ad (xG ca ad) (v, π) [.ref (ad 4), .int (nI q), .ref (ad (7 + 2 * k))] (fun u => u = (pa v π q k M, π)) := by
  refine uStart (by decide) (Nat.le_of_ble_eq_true rfl) ?_
  intro p e s m below meth c ls S hr hlk hK hN hP hl
  have hU : ∀ w ∈ uWS, w ∈ (Cond.code y_B_putAll b_B_putAll 4 (none : Option Jvm.ClassFile.FieldType) :: uWS) := fun w h => List.mem_cons_of_mem _ h
  have hS : va_S (uA 165 ad s.heap.size) s.heap s.heap [] := va_S.rf
  have hl : lv_has ls 4 [(0, .ref (ad 4)), (1, .int (nI q)), (2, .ref (ad (7 + 2 * k)))] := hl
  have hn40 : n ≤ 40 := hB.2.1
  refine lv_iconst (v := 0) S.1 S.2.1 d_B_putAll_0 (by decide) ?_
  refine lv_istore_n (lv' := [(3, .int 0), (0, .ref (ad 4)), (1, .int (nI q)), (2, .ref (ad (7 + 2 * k)))]) S.1 S.2.1 d_B_putAll_1 rfl hl (by decide) rfl (fun ls hl => ?_)
  have L : ∀ i, i ≤ M → ∀ (H : Heap) (locs : List Loc) (ls : Array Slot), va_P D clsAll (uw 165 ad (xG ca ad ((pa v π q k i), π))) H → va_S (uA 165 ad s.heap.size) s.heap H locs → lv_has ls 4 [(3, .int (nI i)), (0, .ref (ad 4)), (1, .int (nI q)), (2, .ref (ad (7 + 2 * k)))] → uGv 1 22 D clsAll 165 ad (xG ca ad) (fun u => u = (pa v π q k M, π)) [.ref (ad 4), .int (nI q), .ref (ad (7 + 2 * k))] p l e s m below meth c H locs 2 ls [] := by
    refine upTo M ?_ ?_
    · intro H locs ls hP hS hl
      refine lv_iload_n S.1 S.2.1 d_B_putAll_2 rfl (lv_at hl 0 rfl) ?_
      refine lv_bipush (v := 64) S.1 S.2.1 d_B_putAll_3 (by decide) ?_
      refine lv_icmp_ge (tgt := 40) S.1 S.2.1 d_B_putAll_5 (by decide) (fun c_h => ?_) (fun c_h => ?_)
      · exact uVret S hr hlk ((pa v π q k M), π) hP hS (rfl) d_B_putAll_40
      · exact absurd (by subst hM; exact nI_le (Nat.le_refl 64) (by decide)) c_h
    · intro i hi ih H locs ls hP hS hl
      have hB := pa_bk (q := q) (k := k) hB i
      refine lv_iload_n S.1 S.2.1 d_B_putAll_2 rfl (lv_at hl 0 rfl) ?_
      refine lv_bipush (v := 64) S.1 S.2.1 d_B_putAll_3 (by decide) ?_
      refine lv_icmp_ge (tgt := 40) S.1 S.2.1 d_B_putAll_5 (by decide) (fun c_h => ?_) (fun c_h => ?_)
      · exact absurd c_h (nI_ge (b := 64) (by omega) (by decide))
      · refine lv_aload_n S.1 S.2.1 d_B_putAll_8 rfl (lv_at hl 3 rfl) ?_
        refine lv_iload_n S.1 S.2.1 d_B_putAll_9 rfl (lv_at hl 0 rfl) ?_
        refine uVi (n := 1) (b := (7 + 2 * k)) (As := [.int (nI i)]) (rest := []) S hK hN hP hS (c_V_has hJ (pa v π q k i) π k i hk (by omega)) ⟨hU, t2_135, t2_150, t1_2, by decide +kernel, by decide, by decide⟩ t2_133 t2_134 (kb_V hk) (xg_row hk) rfl rfl rfl hl.1 rfl (Nat.le_of_ble_eq_true rfl) d_B_putAll_10 ⟨Nat.le_of_ble_eq_true rfl, Nat.le_of_ble_eq_true rfl⟩ (fun r u H locs hp hP hS => ?_)
        obtain ⟨rfl, rfl⟩ := hp
        refine lv_if_eq (tgt := 34) S.1 S.2.1 d_B_putAll_13 (by decide) (fun c_a => ?_) (fun c_a => ?_)
        · have c_a := pI_no c_a
          refine lv_iinc (v := nI (i + 1)) (lv' := [(3, .int (nI (i + 1))), (0, .ref (ad 4)), (1, .int (nI q)), (2, .ref (ad (7 + 2 * k)))]) S.1 S.2.1 d_B_putAll_34 hl (k := 0) rfl (nI_1 i) (by decide) rfl (fun ls hl => ?_)
          refine lv_goto (tgt := 2) S.1 S.2.1 d_B_putAll_37 (by decide) ?_
          exact ih _ _ ls (by rw [pa, if_neg c_a]; exact hP) hS (lv_sub hl [0, 1, 2, 3] rfl)
        · have c_a := pI_yes c_a
          refine lv_aload_n S.1 S.2.1 d_B_putAll_16 rfl (lv_at hl 1 rfl) ?_
          refine ur_get (k := 4) (v := .ref (ad 5)) S hK hP (by decide) xg_book rfl (fun w h => hU w (in_B w h)) 0 (by decide) (hU _ t1_106) rfl d_B_putAll_17 ?_
          refine lv_iload_n S.1 S.2.1 d_B_putAll_20 rfl (lv_at hl 2 rfl) ?_
          refine ur_aald (k := 5) (q := ad (89 + π q)) (j := q) S hK hP (by decide) 2 xg_cues rfl rfl (by omega) (by decide) rfl d_B_putAll_21 ?_
          refine ur_getN (k := (89 + (π q))) (v := .ref (ad (7 + 2 * (π q)))) S hK hP (kb_C (hB.2.2 _ (by omega))) (xg_cue (hB.2.2 _ (by omega))) rfl (fun w h => hU w (in_C w h)) 0 (by decide) (hN _ t1_74) rfl d_B_putAll_22 ?_
          refine lv_iload_n S.1 S.2.1 d_B_putAll_25 rfl (lv_at hl 0 rfl) ?_
          refine lv_aload_n S.1 S.2.1 d_B_putAll_26 rfl (lv_at hl 3 rfl) ?_
          refine lv_iload_n S.1 S.2.1 d_B_putAll_27 rfl (lv_at hl 0 rfl) ?_
          refine uVi (n := 1) (b := (7 + 2 * k)) (As := [.int (nI i)]) (rest := [.int (nI i), .ref (ad (7 + 2 * (π q)))]) S hK hN hP hS (c_V_valueAt hJ (pa v π q k i) π k i hk (by omega)) ⟨hU, t2_162, t2_159, t1_2, by decide +kernel, by decide, by decide⟩ t2_160 t2_161 (kb_V hk) (xg_row hk) rfl rfl rfl hl.1 rfl (Nat.le_of_ble_eq_true rfl) d_B_putAll_28 ⟨Nat.le_of_ble_eq_true rfl, Nat.le_of_ble_eq_true rfl⟩ (fun r u H locs hp hP hS => ?_)
          obtain ⟨rfl, rfl⟩ := hp
          refine uVv (n := 2) (b := (7 + 2 * (π q))) (As := [.int (nI i), .int ((pa v π q k i) 17 k i)]) (rest := []) S hK hN hP hS (c_V_put hJ (pa v π q k i) π (π q) i (Nat.lt_succ_of_lt (hB.2.2 _ (by omega))) (by omega) ((pa v π q k i) 17 k i)) ⟨hU, t1_197, t2_166, t1_2, by decide +kernel, by decide, by decide⟩ t1_195 t1_196 (kb_V (Nat.lt_succ_of_lt (hB.2.2 _ (by omega)))) (xg_row (Nat.lt_succ_of_lt (hB.2.2 _ (by omega)))) rfl rfl rfl hl.1 rfl (Nat.le_of_ble_eq_true rfl) d_B_putAll_31 ⟨Nat.le_of_ble_eq_true rfl, Nat.le_of_ble_eq_true rfl⟩ (fun u H locs hp hP hS => ?_)
          obtain rfl := hp
          refine lv_iinc (v := nI (i + 1)) (lv' := [(3, .int (nI (i + 1))), (0, .ref (ad 4)), (1, .int (nI q)), (2, .ref (ad (7 + 2 * k)))]) S.1 S.2.1 d_B_putAll_34 hl (k := 0) rfl (nI_1 i) (by decide) rfl (fun ls hl => ?_)
          refine lv_goto (tgt := 2) S.1 S.2.1 d_B_putAll_37 (by decide) ?_
          exact ih _ _ ls (by rw [pa, if_pos c_a]; exact hP) hS (lv_sub hl [0, 1, 2, 3] rfl)
  exact L 0 (Nat.zero_le _) _ _ ls hP hS (lv_sub hl [0, 1, 2, 3] rfl)
