/-! The class: edits of the book (printed by wip/gen/gen_x5.py) -/
set_option maxRecDepth 100000 in
set_option maxHeartbeats 4000000 in
theorem c_B_takeOut {l : Launch} {D : va_G} {ca : Nat → ClassId} {ad : Nat → Nat} (hJ : uJ 165 ad) (v : Nat → Nat → Nat → Int32) (π : Nat → Nat) (n : Nat) (hB : xBk v π n) (q : Nat) (hq : q < n) : uMv l y_B_takeOut b_B_takeOut 4 (none : Option Jvm.ClassFile.FieldType) 0 0 D clsAll (tysAll ca) 165 ad (xG ca ad) (v, π) [.ref (ad 4), .int (nI q)] (fun u => u = (vOut v n, pOut π n q)) := by
  refine uStart (by decide) (Nat.le_of_ble_eq_true rfl) ?_
  intro p e s m below meth c ls S hr hlk hK hN hP hl
  have hU : ∀ w ∈ uWS, w ∈ (Cond.code y_B_takeOut b_B_takeOut 4 (none : Option Jvm.ClassFile.FieldType) :: uWS) := fun w h => List.mem_cons_of_mem _ h
  have hS : va_S (uA 165 ad s.heap.size) s.heap s.heap [] := va_S.rf
  have hl : lv_has ls 4 [(0, .ref (ad 4)), (1, .int (nI q))] := hl
  have hn40 : n ≤ 40 := hB.2.1
  refine lv_aload_n S.1 S.2.1 d_B_takeOut_0 rfl (lv_at hl 0 rfl) ?_
  refine ur_get (k := 4) (v := .ref (ad 5)) S hK hP (by decide) xg_book rfl (fun w h => hU w (in_B w h)) 0 (by decide) (hU _ t1_106) rfl d_B_takeOut_1 ?_
  refine lv_iload_n S.1 S.2.1 d_B_takeOut_4 rfl (lv_at hl 1 rfl) ?_
  refine ur_aald (k := 5) (q := ad (89 + π q)) (j := q) S hK hP (by decide) 2 xg_cues rfl rfl (by omega) (by decide) rfl d_B_takeOut_5 ?_
  refine lv_astore_n (lv' := [(2, .ref (ad (89 + π q))), (0, .ref (ad 4)), (1, .int (nI q))]) S.1 S.2.1 d_B_takeOut_6 rfl hl (by decide) rfl (fun ls hl => ?_)
  refine lv_aload_n S.1 S.2.1 d_B_takeOut_7 rfl (lv_at hl 1 rfl) ?_
  refine lv_dup S.1 S.2.1 d_B_takeOut_8 rfl ?_
  refine ur_get (k := 4) (v := .int (v 4 0 0)) S hK hP (by decide) xg_book rfl (fun w h => hU w (in_B w h)) 1 (by decide) (hU _ t1_107) rfl d_B_takeOut_9 ?_
  refine lv_iconst (v := 1) S.1 S.2.1 d_B_takeOut_12 (by decide) ?_
  refine lv_isub S.1 S.2.1 d_B_takeOut_13 ?_
  rw [show v 4 0 0 - 1 = nI (n - 1) from by rw [hB.1]; exact nI_sub1 (by omega)]
  refine ur_put (k := 4) (v := .int (nI (n - 1))) (g' := xG ca ad (up3 v 4 0 0 (nI (n - 1)), π)) S hK hP (uD _ hJ) hS (by decide) xg_book rfl (fun w h => hU w (in_B w h)) ty_B tyk_B nm_B 1 (by decide) (hU _ t1_107) rfl rfl rfl (Nat.le_of_ble_eq_true rfl) xs_size d_B_takeOut_14 (fun H locs hP hS => ?_)
  refine lv_iload_n S.1 S.2.1 d_B_takeOut_17 rfl (lv_at hl 2 rfl) ?_
  refine lv_istore_n (lv' := [(3, .int (nI q)), (2, .ref (ad (89 + π q))), (0, .ref (ad 4)), (1, .int (nI q))]) S.1 S.2.1 d_B_takeOut_18 rfl hl (by decide) rfl (fun ls hl => ?_)
  have L : ∀ i, i ≤ (n - 1 - q) → ∀ (H : Heap) (locs : List Loc) (ls : Array Slot), va_P D clsAll (uw 165 ad (xG ca ad ((up3 v 4 0 0 (nI (n - 1))), (tkp π q i)))) H → va_S (uA 165 ad s.heap.size) s.heap H locs → lv_has ls 4 [(3, .int (nI (q + i))), (2, .ref (ad (89 + π q))), (0, .ref (ad 4)), (1, .int (nI q))] → uGv 0 0 D clsAll 165 ad (xG ca ad) (fun u => u = (vOut v n, pOut π n q)) [.ref (ad 4), .int (nI q)] p l e s m below meth c H locs 19 ls [] := by
    refine upTo (n - 1 - q) ?_ ?_
    · intro H locs ls hP hS hl
      refine lv_iload_n S.1 S.2.1 d_B_takeOut_19 rfl (lv_at hl 0 rfl) ?_
      refine lv_aload_n S.1 S.2.1 d_B_takeOut_20 rfl (lv_at hl 2 rfl) ?_
      refine ur_get (k := 4) (v := .int ((up3 v 4 0 0 (nI (n - 1))) 4 0 0)) S hK hP (by decide) xg_book rfl (fun w h => hU w (in_B w h)) 1 (by decide) (hU _ t1_107) rfl d_B_takeOut_21 ?_
      refine lv_icmp_ge (tgt := 47) S.1 S.2.1 d_B_takeOut_24 (by decide) (fun c_h => ?_) (fun c_h => ?_)
      · refine lv_aload_n S.1 S.2.1 d_B_takeOut_47 rfl (lv_at hl 2 rfl) ?_
        refine ur_get (k := 4) (v := .ref (ad 5)) S hK hP (by decide) xg_book rfl (fun w h => hU w (in_B w h)) 0 (by decide) (hU _ t1_106) rfl d_B_takeOut_48 ?_
        refine lv_aload_n S.1 S.2.1 d_B_takeOut_51 rfl (lv_at hl 2 rfl) ?_
        refine ur_get (k := 4) (v := .int ((up3 v 4 0 0 (nI (n - 1))) 4 0 0)) S hK hP (by decide) xg_book rfl (fun w h => hU w (in_B w h)) 1 (by decide) (hU _ t1_107) rfl d_B_takeOut_52 ?_
        refine lv_aload_n S.1 S.2.1 d_B_takeOut_55 rfl (lv_at hl 1 rfl) ?_
        refine ur_aast (k := 5) (j := (n - 1)) (kv := 89 + (π q)) (ci := 2) (g' := xG ca ad ((up3 v 4 0 0 (nI (n - 1))), va_up (tkp π q (n - 1 - q)) (n - 1) (π q))) S hK hP (uD _ hJ) hS (by decide) 2 xg_cues rfl (up3_s _ _ _ _ _) (by omega) (by decide) (kb_C (hB.2.2 _ (by omega))) (xg_cue (hB.2.2 _ (by omega))) rfl xs_cues d_B_takeOut_56 (fun H locs hP hS => ?_)
        exact uVret S hr hlk ((up3 v 4 0 0 (nI (n - 1))), (va_up (tkp π q (n - 1 - q)) (n - 1) (π q))) hP hS (rfl) d_B_takeOut_57
      · exact absurd (by rw [up3_s]; exact nI_le (by omega) (by omega)) c_h
    · intro i hi ih H locs ls hP hS hl
      refine lv_iload_n S.1 S.2.1 d_B_takeOut_19 rfl (lv_at hl 0 rfl) ?_
      refine lv_aload_n S.1 S.2.1 d_B_takeOut_20 rfl (lv_at hl 2 rfl) ?_
      refine ur_get (k := 4) (v := .int ((up3 v 4 0 0 (nI (n - 1))) 4 0 0)) S hK hP (by decide) xg_book rfl (fun w h => hU w (in_B w h)) 1 (by decide) (hU _ t1_107) rfl d_B_takeOut_21 ?_
      refine lv_icmp_ge (tgt := 47) S.1 S.2.1 d_B_takeOut_24 (by decide) (fun c_h => ?_) (fun c_h => ?_)
      · exact absurd c_h (by rw [up3_s]; exact nI_ge (by omega) (by omega))
      · refine lv_aload_n S.1 S.2.1 d_B_takeOut_27 rfl (lv_at hl 2 rfl) ?_
        refine ur_get (k := 4) (v := .ref (ad 5)) S hK hP (by decide) xg_book rfl (fun w h => hU w (in_B w h)) 0 (by decide) (hU _ t1_106) rfl d_B_takeOut_28 ?_
        refine lv_iload_n S.1 S.2.1 d_B_takeOut_31 rfl (lv_at hl 0 rfl) ?_
        refine lv_aload_n S.1 S.2.1 d_B_takeOut_32 rfl (lv_at hl 2 rfl) ?_
        refine ur_get (k := 4) (v := .ref (ad 5)) S hK hP (by decide) xg_book rfl (fun w h => hU w (in_B w h)) 0 (by decide) (hU _ t1_106) rfl d_B_takeOut_33 ?_
        refine lv_iload_n S.1 S.2.1 d_B_takeOut_36 rfl (lv_at hl 0 rfl) ?_
        refine lv_iconst (v := 1) S.1 S.2.1 d_B_takeOut_37 (by decide) ?_
        refine lv_iadd S.1 S.2.1 d_B_takeOut_38 ?_
        refine ur_aald (k := 5) (q := ad (89 + (tkp π q i) (q + i + 1))) (j := (q + i + 1)) S hK hP (by decide) 2 xg_cues rfl (nI_1 _) (by omega) (by decide) rfl d_B_takeOut_39 ?_
        refine ur_aast (k := 5) (j := (q + i)) (kv := 89 + ((tkp π q i) (q + i + 1))) (ci := 2) (g' := xG ca ad ((up3 v 4 0 0 (nI (n - 1))), va_up (tkp π q i) (q + i) ((tkp π q i) (q + i + 1)))) S hK hP (uD _ hJ) hS (by decide) 2 xg_cues rfl rfl (by omega) (by decide) (kb_C (tkp_lt hB.2.2 _ (by omega) _ (by omega))) (xg_cue (tkp_lt hB.2.2 _ (by omega) _ (by omega))) rfl xs_cues d_B_takeOut_40 (fun H locs hP hS => ?_)
        refine lv_iinc (v := nI ((q + i) + 1)) (lv' := [(3, .int (nI ((q + i) + 1))), (2, .ref (ad (89 + π q))), (0, .ref (ad 4)), (1, .int (nI q))]) S.1 S.2.1 d_B_takeOut_41 hl (k := 0) rfl (nI_1 (q + i)) (by decide) rfl (fun ls hl => ?_)
        refine lv_goto (tgt := 19) S.1 S.2.1 d_B_takeOut_44 (by decide) ?_
        exact ih _ _ ls (by rw [tkp]; exact hP) hS (lv_sub hl [0, 1, 2, 3] rfl)
  exact L 0 (Nat.zero_le _) _ _ ls hP hS (lv_sub hl [0, 1, 2, 3] rfl)
