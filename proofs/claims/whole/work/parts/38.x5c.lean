/-! insert -/
set_option maxRecDepth 100000 in
set_option maxHeartbeats 4000000 in
theorem c_B_insert {l : Launch} {D : va_G} {ca : Nat → ClassId} {ad : Nat → Nat} (hJ : uJ 165 ad) (v : Nat → Nat → Nat → Int32) (π : Nat → Nat) (n : Nat) (hB : xBk v π n) (hn : n < 40) (q : Nat) (hq : q ≤ n) (a b : Int32) : uMv l y_B_insert b_B_insert 6 (none : Option Jvm.ClassFile.FieldType) 3 65 D clsAll (tysAll ca) 165 ad (xG ca ad) (v, π) [.ref (ad 4), .int (nI q), .int a, .int b] (fun u => u = (vIns v π n a b, pIns π n q)) := by
  refine uStart (by decide) (Nat.le_of_ble_eq_true rfl) ?_
  intro p e s m below meth c ls S hr hlk hK hN hP hl
  have hU : ∀ w ∈ uWS, w ∈ (Cond.code y_B_insert b_B_insert 6 (none : Option Jvm.ClassFile.FieldType) :: uWS) := fun w h => List.mem_cons_of_mem _ h
  have hS : va_S (uA 165 ad s.heap.size) s.heap s.heap [] := va_S.rf
  have hl : lv_has ls 6 [(0, .ref (ad 4)), (1, .int (nI q)), (2, .int a), (3, .int b)] := hl
  refine lv_aload_n S.1 S.2.1 d_B_insert_0 rfl (lv_at hl 0 rfl) ?_
  refine ur_get (k := 4) (v := .ref (ad 5)) S hK hP (by decide) xg_book rfl (fun w h => hU w (in_B w h)) 0 (by decide) (hU _ t1_106) rfl d_B_insert_1 ?_
  refine lv_aload_n S.1 S.2.1 d_B_insert_4 rfl (lv_at hl 0 rfl) ?_
  refine ur_get (k := 4) (v := .int (v 4 0 0)) S hK hP (by decide) xg_book rfl (fun w h => hU w (in_B w h)) 1 (by decide) (hU _ t1_107) rfl d_B_insert_5 ?_
  refine ur_aald (k := 5) (q := ad (89 + π n)) (j := n) S hK hP (by decide) 2 xg_cues rfl hB.1 (by omega) (by decide) rfl d_B_insert_8 ?_
  refine lv_astore (lv' := [(4, .ref (ad (89 + π n))), (0, .ref (ad 4)), (1, .int (nI q)), (2, .int a), (3, .int b)]) S.1 S.2.1 d_B_insert_9 hl (by decide) rfl (fun ls hl => ?_)
  refine lv_aload_n S.1 S.2.1 d_B_insert_11 rfl (lv_at hl 1 rfl) ?_
  refine ur_get (k := 4) (v := .int (v 4 0 0)) S hK hP (by decide) xg_book rfl (fun w h => hU w (in_B w h)) 1 (by decide) (hU _ t1_107) rfl d_B_insert_12 ?_
  rw [hB.1]
  refine lv_istore (lv' := [(5, .int (nI n)), (4, .ref (ad (89 + π n))), (0, .ref (ad 4)), (1, .int (nI q)), (2, .int a), (3, .int b)]) S.1 S.2.1 d_B_insert_15 hl (by decide) rfl (fun ls hl => ?_)
  have L : ∀ i, i ≤ (n - q) → ∀ (H : Heap) (locs : List Loc) (ls : Array Slot), va_P D clsAll (uw 165 ad (xG ca ad (v, (isp π n i)))) H → va_S (uA 165 ad s.heap.size) s.heap H locs → lv_has ls 6 [(5, .int (nI (n - i))), (4, .ref (ad (89 + π n))), (0, .ref (ad 4)), (1, .int (nI q)), (2, .int a), (3, .int b)] → uGv 3 65 D clsAll 165 ad (xG ca ad) (fun u => u = (vIns v π n a b, pIns π n q)) [.ref (ad 4), .int (nI q), .int a, .int b] p l e s m below meth c H locs 17 ls [] := by
    refine upTo (n - q) ?_ ?_
    · intro H locs ls hP hS hl
      refine lv_iload S.1 S.2.1 d_B_insert_17 (lv_at hl 0 rfl) ?_
      refine lv_iload_n S.1 S.2.1 d_B_insert_19 rfl (lv_at hl 3 rfl) ?_
      refine lv_icmp_le (tgt := 45) S.1 S.2.1 d_B_insert_20 (by decide) (fun c_h => ?_) (fun c_h => ?_)
      · refine lv_aload_n S.1 S.2.1 d_B_insert_45 rfl (lv_at hl 2 rfl) ?_
        refine ur_get (k := 4) (v := .ref (ad 5)) S hK hP (by decide) xg_book rfl (fun w h => hU w (in_B w h)) 0 (by decide) (hU _ t1_106) rfl d_B_insert_46 ?_
        refine lv_iload_n S.1 S.2.1 d_B_insert_49 rfl (lv_at hl 3 rfl) ?_
        refine lv_aload S.1 S.2.1 d_B_insert_50 (lv_at hl 1 rfl) ?_
        refine ur_aast (k := 5) (j := q) (kv := 89 + (π n)) (ci := 2) (g' := xG ca ad (v, va_up (isp π n (n - q)) q (π n))) S hK hP (uD _ hJ) hS (by decide) 2 xg_cues rfl rfl (by omega) (by decide) (kb_C (hB.2.2 _ (by omega))) (xg_cue (hB.2.2 _ (by omega))) rfl xs_cues d_B_insert_52 (fun H locs hP hS => ?_)
        refine lv_aload_n S.1 S.2.1 d_B_insert_53 rfl (lv_at hl 2 rfl) ?_
        refine lv_dup S.1 S.2.1 d_B_insert_54 rfl ?_
        refine ur_get (k := 4) (v := .int (v 4 0 0)) S hK hP (by decide) xg_book rfl (fun w h => hU w (in_B w h)) 1 (by decide) (hU _ t1_107) rfl d_B_insert_55 ?_
        refine lv_iconst (v := 1) S.1 S.2.1 d_B_insert_58 (by decide) ?_
        refine lv_iadd S.1 S.2.1 d_B_insert_59 ?_
        rw [show v 4 0 0 + 1 = nI (n + 1) from by rw [hB.1]; exact nI_1 n]
        refine ur_put (k := 4) (v := .int (nI (n + 1))) (g' := xG ca ad (up3 v 4 0 0 (nI (n + 1)), (va_up (isp π n (n - q)) q (π n)))) S hK hP (uD _ hJ) hS (by decide) xg_book rfl (fun w h => hU w (in_B w h)) ty_B tyk_B nm_B 1 (by decide) (hU _ t1_107) rfl rfl rfl (Nat.le_of_ble_eq_true rfl) xs_size d_B_insert_60 (fun H locs hP hS => ?_)
        refine lv_aload S.1 S.2.1 d_B_insert_63 (lv_at hl 1 rfl) ?_
        refine lv_iload_n S.1 S.2.1 d_B_insert_65 rfl (lv_at hl 4 rfl) ?_
        refine lv_iload_n S.1 S.2.1 d_B_insert_66 rfl (lv_at hl 5 rfl) ?_
        refine uVv (n := 2) (b := (89 + (π n))) (As := [.int a, .int b]) (rest := []) S hK hN hP hS (c_C_beginAs hJ (up3 v 4 0 0 (nI (n + 1))) (va_up (isp π n (n - q)) q (π n)) (π n) (hB.2.2 _ (by omega)) a b) ⟨hU, t2_144, t2_141, t1_6, by decide +kernel, by decide, by decide⟩ t2_142 t2_143 (kb_C (hB.2.2 _ (by omega))) (xg_cue (hB.2.2 _ (by omega))) rfl rfl rfl hl.1 rfl (Nat.le_of_ble_eq_true rfl) d_B_insert_67 ⟨Nat.le_of_ble_eq_true rfl, Nat.le_of_ble_eq_true rfl⟩ (fun u H locs hp hP hS => ?_)
        obtain rfl := hp
        exact uVret S hr hlk ((vBegin (up3 v 4 0 0 (nI (n + 1))) (π n) a b), (va_up (isp π n (n - q)) q (π n))) hP hS (rfl) d_B_insert_70
      · exact absurd (nI_le (by omega) (by omega)) c_h
    · intro i hi ih H locs ls hP hS hl
      refine lv_iload S.1 S.2.1 d_B_insert_17 (lv_at hl 0 rfl) ?_
      refine lv_iload_n S.1 S.2.1 d_B_insert_19 rfl (lv_at hl 3 rfl) ?_
      refine lv_icmp_le (tgt := 45) S.1 S.2.1 d_B_insert_20 (by decide) (fun c_h => ?_) (fun c_h => ?_)
      · exact absurd c_h (nI_ge (by omega) (by omega))
      · refine lv_aload_n S.1 S.2.1 d_B_insert_23 rfl (lv_at hl 2 rfl) ?_
        refine ur_get (k := 4) (v := .ref (ad 5)) S hK hP (by decide) xg_book rfl (fun w h => hU w (in_B w h)) 0 (by decide) (hU _ t1_106) rfl d_B_insert_24 ?_
        refine lv_iload S.1 S.2.1 d_B_insert_27 (lv_at hl 0 rfl) ?_
        refine lv_aload_n S.1 S.2.1 d_B_insert_29 rfl (lv_at hl 2 rfl) ?_
        refine ur_get (k := 4) (v := .ref (ad 5)) S hK hP (by decide) xg_book rfl (fun w h => hU w (in_B w h)) 0 (by decide) (hU _ t1_106) rfl d_B_insert_30 ?_
        refine lv_iload S.1 S.2.1 d_B_insert_33 (lv_at hl 0 rfl) ?_
        refine lv_iconst (v := 1) S.1 S.2.1 d_B_insert_35 (by decide) ?_
        refine lv_isub S.1 S.2.1 d_B_insert_36 ?_
        refine ur_aald (k := 5) (q := ad (89 + (isp π n i) (n - i - 1))) (j := (n - i - 1)) S hK hP (by decide) 2 xg_cues rfl (nI_sub1 (by omega)) (by omega) (by decide) rfl d_B_insert_37 ?_
        refine ur_aast (k := 5) (j := (n - i)) (kv := 89 + ((isp π n i) (n - i - 1))) (ci := 2) (g' := xG ca ad (v, va_up (isp π n i) (n - i) ((isp π n i) (n - i - 1)))) S hK hP (uD _ hJ) hS (by decide) 2 xg_cues rfl rfl (by omega) (by decide) (kb_C (isp_lt hn hB.2.2 _ _ (by omega))) (xg_cue (isp_lt hn hB.2.2 _ _ (by omega))) rfl xs_cues d_B_insert_38 (fun H locs hP hS => ?_)
        refine lv_iinc (v := nI (n - (i + 1))) (lv' := [(5, .int (nI (n - (i + 1)))), (4, .ref (ad (89 + π n))), (0, .ref (ad 4)), (1, .int (nI q)), (2, .int a), (3, .int b)]) S.1 S.2.1 d_B_insert_39 hl (k := 0) rfl (by rw [nI_decn (by omega), Nat.sub_sub]) (by decide) rfl (fun ls hl => ?_)
        refine lv_goto (tgt := 17) S.1 S.2.1 d_B_insert_42 (by decide) ?_
        exact ih _ _ ls (by rw [isp]; exact hP) hS (lv_sub hl [0, 1, 2, 3, 4, 5] rfl)
  exact L 0 (Nat.zero_le _) _ _ ls hP hS (lv_sub hl [0, 1, 2, 3, 4, 5] rfl)
