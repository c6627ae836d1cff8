/-! The model: delete, block, record (printed by wip/gen/gen_m9.py) -/
set_option maxRecDepth 100000 in
set_option maxHeartbeats 4000000 in
theorem c_M_delete {l : Launch} {D : va_G} {ca : Nat → ClassId} {ad : Nat → Nat} (hJ : uJ 22 ad) (w : Nat → Nat → Int32) (M : Nat) (hM : M = 64) (F : Nat) (hF : F = 40) (a b x : Int32) : uMi l y_M_delete b_M_delete 8 (some .int) 4 94 D clsAll (tysAll ca) 22 ad (mG ca ad) w [.ref (ad 0), .int a, .int b, .int x] (fun r u => mDeP w a b x F M r u) := by
  refine uStart (by decide) (Nat.le_of_ble_eq_true rfl) ?_
  intro p e s m below meth c ls S hr hlk hK hN hP hl
  have hU : ∀ w ∈ uWS, w ∈ (Cond.code y_M_delete b_M_delete 8 (some .int) :: uWS) := fun w h => List.mem_cons_of_mem _ h
  have hS : va_S (uA 22 ad s.heap.size) s.heap s.heap [] := va_S.rf
  have hl : lv_has ls 8 [(0, .ref (ad 0)), (1, .int a), (2, .int b), (3, .int x)] := hl
  refine lv_aload_n S.1 S.2.1 d_M_delete_0 rfl (lv_at hl 0 rfl) ?_
  refine lv_iload_n S.1 S.2.1 d_M_delete_1 rfl (lv_at hl 1 rfl) ?_
  refine lv_iload_n S.1 S.2.1 d_M_delete_2 rfl (lv_at hl 2 rfl) ?_
  refine uVi (n := 2) (b := 0) (As := [.int a, .int b]) (rest := []) S hK hN hP hS (c_M_has hJ w F hF a b) ⟨hU, t4_91, t4_88, t1_8, by decide +kernel, by decide, by decide⟩ t4_90 tp_29 (by decide) mg_obj rfl rfl rfl hl.1 rfl (Nat.le_of_ble_eq_true rfl) d_M_delete_3 ⟨Nat.le_of_ble_eq_true rfl, Nat.le_of_ble_eq_true rfl⟩ (fun r u H locs hp hP hS => ?_)
  obtain ⟨hu, rfl⟩ := hp
  rw [hu] at hP
  refine lv_if_ne (tgt := 11) S.1 S.2.1 d_M_delete_6 (by decide) (fun c_has => ?_) (fun c_has => ?_)
  · have c_has := pI_yes c_has
    rw [if_neg c_has] at hP
    refine lv_aload_n S.1 S.2.1 d_M_delete_11 rfl (lv_at hl 0 rfl) ?_
    refine lv_iload_n S.1 S.2.1 d_M_delete_12 rfl (lv_at hl 1 rfl) ?_
    refine lv_iload_n S.1 S.2.1 d_M_delete_13 rfl (lv_at hl 2 rfl) ?_
    refine uVi (n := 2) (b := 0) (As := [.int a, .int b]) (rest := []) S hK hN hP hS (c_M_find hJ (up2 w 0 0 0) F hF a b) ⟨hU, t4_31, t4_28, t1_8, by decide +kernel, by decide, by decide⟩ t4_30 tp_15 (by decide) mg_obj rfl rfl rfl hl.1 rfl (Nat.le_of_ble_eq_true rfl) d_M_delete_14 ⟨Nat.le_of_ble_eq_true rfl, Nat.le_of_ble_eq_true rfl⟩ (fun r u H locs hp hP hS => ?_)
    obtain ⟨hu, rfl⟩ := hp
    rw [hu] at hP
    rcases hF0 : mFnd (up2 w 0 0 0) a b F with _ | p0
    · exact absurd (by rw [← mFnd_0 (x := 0)]; exact hF0) c_has
    · have hp0 := mFnd_lt _ _ hF0
      refine lv_istore (lv' := [(4, .int (nI p0)), (0, .ref (ad 0)), (1, .int a), (2, .int b), (3, .int x)]) S.1 S.2.1 d_M_delete_17 hl (by decide) rfl (fun ls hl => ?_)
      refine lv_iload_n S.1 S.2.1 d_M_delete_19 rfl (lv_at hl 4 rfl) ?_
      refine lv_if_eq (tgt := 32) S.1 S.2.1 d_M_delete_20 (by decide) (fun c_k => ?_) (fun c_k => ?_)
      · refine lv_iconst (v := (-1)) S.1 S.2.1 d_M_delete_32 (by decide) ?_
        have hN0 : mNx (up2 w 0 0 0) a b x F = none := by rw [mNx, if_pos c_k]
        refine lv_istore (lv' := [(5, .int (-1)), (4, .int (nI p0)), (0, .ref (ad 0)), (1, .int a), (2, .int b), (3, .int x)]) S.1 S.2.1 d_M_delete_33 hl (by decide) rfl (fun ls hl => ?_)
        refine lv_aload_n S.1 S.2.1 d_M_delete_35 rfl (lv_at hl 2 rfl) ?_
        refine lv_iload S.1 S.2.1 d_M_delete_36 (lv_at hl 1 rfl) ?_
        refine uVi (n := 1) (b := 0) (As := [.int (nI p0)]) (rest := []) S hK hN hP hS (c_M_movesOf hJ (up2 w 0 0 0) M hM p0 (by omega)) ⟨hU, t4_51, t4_48, t1_8, by decide +kernel, by decide, by decide⟩ t4_50 tp_20 (by decide) mg_obj rfl rfl rfl hl.1 rfl (Nat.le_of_ble_eq_true rfl) d_M_delete_38 ⟨Nat.le_of_ble_eq_true rfl, Nat.le_of_ble_eq_true rfl⟩ (fun r u H locs hp hP hS => ?_)
        obtain ⟨hu, rfl⟩ := hp
        rw [hu] at hP
        refine lv_istore (lv' := [(6, .int (mMv (up2 w 0 0 0) p0 M)), (5, .int (-1)), (4, .int (nI p0)), (0, .ref (ad 0)), (1, .int a), (2, .int b), (3, .int x)]) S.1 S.2.1 d_M_delete_41 hl (by decide) rfl (fun ls hl => ?_)
        refine lv_aload_n S.1 S.2.1 d_M_delete_43 rfl (lv_at hl 3 rfl) ?_
        refine lv_iload S.1 S.2.1 d_M_delete_44 (lv_at hl 1 rfl) ?_
        refine uVv (n := 1) (b := 0) (As := [.int (-1)]) (rest := []) S hK hN hP hS (c_M_noteO hJ (up2 w 0 0 0) M hM F hF none (fun q h => nomatch h)) ⟨hU, t4_59, t4_56, t1_8, by decide +kernel, by decide, by decide⟩ t4_58 tp_22 (by decide) mg_obj rfl rfl rfl hl.1 rfl (Nat.le_of_ble_eq_true rfl) d_M_delete_46 ⟨Nat.le_of_ble_eq_true rfl, Nat.le_of_ble_eq_true rfl⟩ (fun u H locs hp hP hS => ?_)
        rw [hp] at hP
        refine lv_iconst (v := 0) S.1 S.2.1 d_M_delete_49 (by decide) ?_
        refine lv_istore (lv' := [(7, .int 0), (6, .int (mMv (up2 w 0 0 0) p0 M)), (5, .int (-1)), (4, .int (nI p0)), (0, .ref (ad 0)), (1, .int a), (2, .int b), (3, .int x)]) S.1 S.2.1 d_M_delete_50 hl (by decide) rfl (fun ls hl => ?_)
        have L : ∀ i, i ≤ M → ∀ (H : Heap) (locs : List Loc) (ls : Array Slot), va_P D clsAll (uw 22 ad (mG ca ad (mNo (up2 w 0 0 0) F M none))) H → va_S (uA 22 ad s.heap.size) s.heap H locs → lv_has ls 8 [(7, .int (nI i)), (6, .int (mMv (up2 w 0 0 0) p0 M)), (5, .int (-1)), (4, .int (nI p0)), (0, .ref (ad 0)), (1, .int a), (2, .int b), (3, .int x)] → uGi 4 94 D clsAll 22 ad (mG ca ad) (fun r u => mDeP w a b x F M r u) [.ref (ad 0), .int a, .int b, .int x] p l e s m below meth c H locs 52 ls [] := by
          refine upTo M ?_ ?_
          · intro H locs ls hP hS hl
            refine lv_iload S.1 S.2.1 d_M_delete_52 (lv_at hl 0 rfl) ?_
            refine lv_bipush (v := 64) S.1 S.2.1 d_M_delete_54 (by decide) ?_
            refine lv_icmp_ge (tgt := 90) S.1 S.2.1 d_M_delete_56 (by decide) (fun c_h1 => ?_) (fun c_h1 => ?_)
            · refine lv_aload_n S.1 S.2.1 d_M_delete_90 rfl (lv_at hl 4 rfl) ?_
              refine ur_get (k := 0) (v := .ref (ad 4)) S hK hP (by decide) mg_obj rfl (fun w h => hU w (in_M w h)) 4 (by decide) (hU _ t3_164) rfl d_M_delete_91 ?_
              refine lv_iload S.1 S.2.1 d_M_delete_94 (lv_at hl 3 rfl) ?_
              refine lv_iconst (v := (-1)) S.1 S.2.1 d_M_delete_96 (by decide) ?_
              refine ur_iast (k := 4) (n := 40) (f := ((mNo (up2 w 0 0 0) F M none) 4)) (j := p0) (g' := mG ca ad (up2 (mNo (up2 w 0 0 0) F M none) 4 p0 (-1))) S hK hP (uD _ hJ) hS (by decide) 0 (mg_arr 4 (by decide)) rfl rfl (by omega) (by decide) (ms_arr 4 (by decide) (by decide) (by decide)) d_M_delete_97 (fun H locs hP hS => ?_)
              refine lv_iload S.1 S.2.1 d_M_delete_98 (lv_at hl 1 rfl) ?_
              exact uIret S hr hlk (up2 (mNo (up2 w 0 0 0) F M none) 4 p0 (-1)) hP hS (by unfold mDeP; rw [if_neg c_has, hF0, hN0]; exact ⟨rfl, rfl⟩) d_M_delete_100
            · exact absurd (by subst hM; exact nI_le (Nat.le_refl 64) (by decide)) c_h1
          · intro i hi ih H locs ls hP hS hl
            refine lv_iload S.1 S.2.1 d_M_delete_52 (lv_at hl 0 rfl) ?_
            refine lv_bipush (v := 64) S.1 S.2.1 d_M_delete_54 (by decide) ?_
            refine lv_icmp_ge (tgt := 90) S.1 S.2.1 d_M_delete_56 (by decide) (fun c_h1 => ?_) (fun c_h1 => ?_)
            · exact absurd c_h1 (nI_ge (b := 64) (by omega) (by decide))
            · refine lv_iload S.1 S.2.1 d_M_delete_59 (lv_at hl 2 rfl) ?_
              refine lv_if_lt (tgt := 84) S.1 S.2.1 d_M_delete_61 (by decide) (fun c_1 => ?_) (fun c_1 => ?_)
              · refine lv_iinc (v := nI (i + 1)) (lv' := [(7, .int (nI (i + 1))), (6, .int (mMv (up2 w 0 0 0) p0 M)), (5, .int (-1)), (4, .int (nI p0)), (0, .ref (ad 0)), (1, .int a), (2, .int b), (3, .int x)]) S.1 S.2.1 d_M_delete_84 hl (k := 0) rfl (nI_1 i) (by decide) rfl (fun ls hl => ?_)
                refine lv_goto (tgt := 52) S.1 S.2.1 d_M_delete_87 (by decide) ?_
                exact ih _ _ ls hP hS (lv_sub hl [0, 1, 2, 3, 4, 5, 6, 7] rfl)
              · exact absurd (by decide) c_1
        exact L 0 (Nat.zero_le _) _ _ ls hP hS (lv_sub hl [0, 1, 2, 3, 4, 5, 6, 7] rfl)
      · refine lv_aload_n S.1 S.2.1 d_M_delete_23 rfl (lv_at hl 1 rfl) ?_
        refine lv_iload_n S.1 S.2.1 d_M_delete_24 rfl (lv_at hl 2 rfl) ?_
        refine lv_iload_n S.1 S.2.1 d_M_delete_25 rfl (lv_at hl 3 rfl) ?_
        refine uVi (n := 2) (b := 0) (As := [.int a, .int b]) (rest := []) S hK hN hP hS (c_M_above hJ (up2 w 0 0 0) F hF a b) ⟨hU, t4_35, t4_32, t1_8, by decide +kernel, by decide, by decide⟩ t4_34 tp_16 (by decide) mg_obj rfl rfl rfl hl.1 rfl (Nat.le_of_ble_eq_true rfl) d_M_delete_26 ⟨Nat.le_of_ble_eq_true rfl, Nat.le_of_ble_eq_true rfl⟩ (fun r u H locs hp hP hS => ?_)
        obtain ⟨hu, rfl⟩ := hp
        rw [hu] at hP
        refine lv_goto (tgt := 33) S.1 S.2.1 d_M_delete_29 (by decide) ?_
        rcases hX0 : mAbv (up2 w 0 0 0) a b F with _ | px
        · have hN0 : mNx (up2 w 0 0 0) a b x F = none := by rw [mNx, if_neg c_k, hX0]
          refine lv_istore (lv' := [(5, .int (-1)), (4, .int (nI p0)), (0, .ref (ad 0)), (1, .int a), (2, .int b), (3, .int x)]) S.1 S.2.1 d_M_delete_33 hl (by decide) rfl (fun ls hl => ?_)
          refine lv_aload_n S.1 S.2.1 d_M_delete_35 rfl (lv_at hl 2 rfl) ?_
          refine lv_iload S.1 S.2.1 d_M_delete_36 (lv_at hl 1 rfl) ?_
          refine uVi (n := 1) (b := 0) (As := [.int (nI p0)]) (rest := []) S hK hN hP hS (c_M_movesOf hJ (up2 w 0 0 0) M hM p0 (by omega)) ⟨hU, t4_51, t4_48, t1_8, by decide +kernel, by decide, by decide⟩ t4_50 tp_20 (by decide) mg_obj rfl rfl rfl hl.1 rfl (Nat.le_of_ble_eq_true rfl) d_M_delete_38 ⟨Nat.le_of_ble_eq_true rfl, Nat.le_of_ble_eq_true rfl⟩ (fun r u H locs hp hP hS => ?_)
          obtain ⟨hu, rfl⟩ := hp
          rw [hu] at hP
          refine lv_istore (lv' := [(6, .int (mMv (up2 w 0 0 0) p0 M)), (5, .int (-1)), (4, .int (nI p0)), (0, .ref (ad 0)), (1, .int a), (2, .int b), (3, .int x)]) S.1 S.2.1 d_M_delete_41 hl (by decide) rfl (fun ls hl => ?_)
          refine lv_aload_n S.1 S.2.1 d_M_delete_43 rfl (lv_at hl 3 rfl) ?_
          refine lv_iload S.1 S.2.1 d_M_delete_44 (lv_at hl 1 rfl) ?_
          refine uVv (n := 1) (b := 0) (As := [.int (-1)]) (rest := []) S hK hN hP hS (c_M_noteO hJ (up2 w 0 0 0) M hM F hF none (fun q h => nomatch h)) ⟨hU, t4_59, t4_56, t1_8, by decide +kernel, by decide, by decide⟩ t4_58 tp_22 (by decide) mg_obj rfl rfl rfl hl.1 rfl (Nat.le_of_ble_eq_true rfl) d_M_delete_46 ⟨Nat.le_of_ble_eq_true rfl, Nat.le_of_ble_eq_true rfl⟩ (fun u H locs hp hP hS => ?_)
          rw [hp] at hP
          refine lv_iconst (v := 0) S.1 S.2.1 d_M_delete_49 (by decide) ?_
          refine lv_istore (lv' := [(7, .int 0), (6, .int (mMv (up2 w 0 0 0) p0 M)), (5, .int (-1)), (4, .int (nI p0)), (0, .ref (ad 0)), (1, .int a), (2, .int b), (3, .int x)]) S.1 S.2.1 d_M_delete_50 hl (by decide) rfl (fun ls hl => ?_)
          have L : ∀ i, i ≤ M → ∀ (H : Heap) (locs : List Loc) (ls : Array Slot), va_P D clsAll (uw 22 ad (mG ca ad (mNo (up2 w 0 0 0) F M none))) H → va_S (uA 22 ad s.heap.size) s.heap H locs → lv_has ls 8 [(7, .int (nI i)), (6, .int (mMv (up2 w 0 0 0) p0 M)), (5, .int (-1)), (4, .int (nI p0)), (0, .ref (ad 0)), (1, .int a), (2, .int b), (3, .int x)] → uGi 4 94 D clsAll 22 ad (mG ca ad) (fun r u => mDeP w a b x F M r u) [.ref (ad 0), .int a, .int b, .int x] p l e s m below meth c H locs 52 ls [] := by
            refine upTo M ?_ ?_
            · intro H locs ls hP hS hl
              refine lv_iload S.1 S.2.1 d_M_delete_52 (lv_at hl 0 rfl) ?_
              refine lv_bipush (v := 64) S.1 S.2.1 d_M_delete_54 (by decide) ?_
              refine lv_icmp_ge (tgt := 90) S.1 S.2.1 d_M_delete_56 (by decide) (fun c_h1 => ?_) (fun c_h1 => ?_)
              · refine lv_aload_n S.1 S.2.1 d_M_delete_90 rfl (lv_at hl 4 rfl) ?_
                refine ur_get (k := 0) (v := .ref (ad 4)) S hK hP (by decide) mg_obj rfl (fun w h => hU w (in_M w h)) 4 (by decide) (hU _ t3_164) rfl d_M_delete_91 ?_
                refine lv_iload S.1 S.2.1 d_M_delete_94 (lv_at hl 3 rfl) ?_
                refine lv_iconst (v := (-1)) S.1 S.2.1 d_M_delete_96 (by decide) ?_
                refine ur_iast (k := 4) (n := 40) (f := ((mNo (up2 w 0 0 0) F M none) 4)) (j := p0) (g' := mG ca ad (up2 (mNo (up2 w 0 0 0) F M none) 4 p0 (-1))) S hK hP (uD _ hJ) hS (by decide) 0 (mg_arr 4 (by decide)) rfl rfl (by omega) (by decide) (ms_arr 4 (by decide) (by decide) (by decide)) d_M_delete_97 (fun H locs hP hS => ?_)
                refine lv_iload S.1 S.2.1 d_M_delete_98 (lv_at hl 1 rfl) ?_
                exact uIret S hr hlk (up2 (mNo (up2 w 0 0 0) F M none) 4 p0 (-1)) hP hS (by unfold mDeP; rw [if_neg c_has, hF0, hN0]; exact ⟨rfl, rfl⟩) d_M_delete_100
              · exact absurd (by subst hM; exact nI_le (Nat.le_refl 64) (by decide)) c_h1
            · intro i hi ih H locs ls hP hS hl
              refine lv_iload S.1 S.2.1 d_M_delete_52 (lv_at hl 0 rfl) ?_
              refine lv_bipush (v := 64) S.1 S.2.1 d_M_delete_54 (by decide) ?_
              refine lv_icmp_ge (tgt := 90) S.1 S.2.1 d_M_delete_56 (by decide) (fun c_h1 => ?_) (fun c_h1 => ?_)
              · exact absurd c_h1 (nI_ge (b := 64) (by omega) (by decide))
              · refine lv_iload S.1 S.2.1 d_M_delete_59 (lv_at hl 2 rfl) ?_
                refine lv_if_lt (tgt := 84) S.1 S.2.1 d_M_delete_61 (by decide) (fun c_2 => ?_) (fun c_2 => ?_)
                · refine lv_iinc (v := nI (i + 1)) (lv' := [(7, .int (nI (i + 1))), (6, .int (mMv (up2 w 0 0 0) p0 M)), (5, .int (-1)), (4, .int (nI p0)), (0, .ref (ad 0)), (1, .int a), (2, .int b), (3, .int x)]) S.1 S.2.1 d_M_delete_84 hl (k := 0) rfl (nI_1 i) (by decide) rfl (fun ls hl => ?_)
                  refine lv_goto (tgt := 52) S.1 S.2.1 d_M_delete_87 (by decide) ?_
                  exact ih _ _ ls hP hS (lv_sub hl [0, 1, 2, 3, 4, 5, 6, 7] rfl)
                · exact absurd (by decide) c_2
          exact L 0 (Nat.zero_le _) _ _ ls hP hS (lv_sub hl [0, 1, 2, 3, 4, 5, 6, 7] rfl)
        · have hN0 : mNx (up2 w 0 0 0) a b x F = some px := by rw [mNx, if_neg c_k, hX0]
          have hpx := mAbv_lt _ _ hX0
          refine lv_istore (lv' := [(5, .int (nI px)), (4, .int (nI p0)), (0, .ref (ad 0)), (1, .int a), (2, .int b), (3, .int x)]) S.1 S.2.1 d_M_delete_33 hl (by decide) rfl (fun ls hl => ?_)
          refine lv_aload_n S.1 S.2.1 d_M_delete_35 rfl (lv_at hl 2 rfl) ?_
          refine lv_iload S.1 S.2.1 d_M_delete_36 (lv_at hl 1 rfl) ?_
          refine uVi (n := 1) (b := 0) (As := [.int (nI p0)]) (rest := []) S hK hN hP hS (c_M_movesOf hJ (up2 w 0 0 0) M hM p0 (by omega)) ⟨hU, t4_51, t4_48, t1_8, by decide +kernel, by decide, by decide⟩ t4_50 tp_20 (by decide) mg_obj rfl rfl rfl hl.1 rfl (Nat.le_of_ble_eq_true rfl) d_M_delete_38 ⟨Nat.le_of_ble_eq_true rfl, Nat.le_of_ble_eq_true rfl⟩ (fun r u H locs hp hP hS => ?_)
          obtain ⟨hu, rfl⟩ := hp
          rw [hu] at hP
          refine lv_istore (lv' := [(6, .int (mMv (up2 w 0 0 0) p0 M)), (5, .int (nI px)), (4, .int (nI p0)), (0, .ref (ad 0)), (1, .int a), (2, .int b), (3, .int x)]) S.1 S.2.1 d_M_delete_41 hl (by decide) rfl (fun ls hl => ?_)
          refine lv_aload_n S.1 S.2.1 d_M_delete_43 rfl (lv_at hl 3 rfl) ?_
          refine lv_iload S.1 S.2.1 d_M_delete_44 (lv_at hl 1 rfl) ?_
          refine uVv (n := 1) (b := 0) (As := [.int (nI px)]) (rest := []) S hK hN hP hS (c_M_noteO hJ (up2 w 0 0 0) M hM F hF (some px) (fun q h => by cases h; omega)) ⟨hU, t4_59, t4_56, t1_8, by decide +kernel, by decide, by decide⟩ t4_58 tp_22 (by decide) mg_obj rfl rfl rfl hl.1 rfl (Nat.le_of_ble_eq_true rfl) d_M_delete_46 ⟨Nat.le_of_ble_eq_true rfl, Nat.le_of_ble_eq_true rfl⟩ (fun u H locs hp hP hS => ?_)
          rw [hp] at hP
          refine lv_iconst (v := 0) S.1 S.2.1 d_M_delete_49 (by decide) ?_
          refine lv_istore (lv' := [(7, .int 0), (6, .int (mMv (up2 w 0 0 0) p0 M)), (5, .int (nI px)), (4, .int (nI p0)), (0, .ref (ad 0)), (1, .int a), (2, .int b), (3, .int x)]) S.1 S.2.1 d_M_delete_50 hl (by decide) rfl (fun ls hl => ?_)
          have L : ∀ i, i ≤ M → ∀ (H : Heap) (locs : List Loc) (ls : Array Slot), va_P D clsAll (uw 22 ad (mG ca ad (mDl (mNo (up2 w 0 0 0) F M (some px)) p0 px i))) H → va_S (uA 22 ad s.heap.size) s.heap H locs → lv_has ls 8 [(7, .int (nI i)), (6, .int (mMv (up2 w 0 0 0) p0 M)), (5, .int (nI px)), (4, .int (nI p0)), (0, .ref (ad 0)), (1, .int a), (2, .int b), (3, .int x)] → uGi 4 94 D clsAll 22 ad (mG ca ad) (fun r u => mDeP w a b x F M r u) [.ref (ad 0), .int a, .int b, .int x] p l e s m below meth c H locs 52 ls [] := by
            refine upTo M ?_ ?_
            · intro H locs ls hP hS hl
              refine lv_iload S.1 S.2.1 d_M_delete_52 (lv_at hl 0 rfl) ?_
              refine lv_bipush (v := 64) S.1 S.2.1 d_M_delete_54 (by decide) ?_
              refine lv_icmp_ge (tgt := 90) S.1 S.2.1 d_M_delete_56 (by decide) (fun c_h1 => ?_) (fun c_h1 => ?_)
              · refine lv_aload_n S.1 S.2.1 d_M_delete_90 rfl (lv_at hl 4 rfl) ?_
                refine ur_get (k := 0) (v := .ref (ad 4)) S hK hP (by decide) mg_obj rfl (fun w h => hU w (in_M w h)) 4 (by decide) (hU _ t3_164) rfl d_M_delete_91 ?_
                refine lv_iload S.1 S.2.1 d_M_delete_94 (lv_at hl 3 rfl) ?_
                refine lv_iconst (v := (-1)) S.1 S.2.1 d_M_delete_96 (by decide) ?_
                refine ur_iast (k := 4) (n := 40) (f := ((mDl (mNo (up2 w 0 0 0) F M (some px)) p0 px M) 4)) (j := p0) (g' := mG ca ad (up2 (mDl (mNo (up2 w 0 0 0) F M (some px)) p0 px M) 4 p0 (-1))) S hK hP (uD _ hJ) hS (by decide) 0 (mg_arr 4 (by decide)) rfl rfl (by omega) (by decide) (ms_arr 4 (by decide) (by decide) (by decide)) d_M_delete_97 (fun H locs hP hS => ?_)
                refine lv_iload S.1 S.2.1 d_M_delete_98 (lv_at hl 1 rfl) ?_
                exact uIret S hr hlk (up2 (mDl (mNo (up2 w 0 0 0) F M (some px)) p0 px M) 4 p0 (-1)) hP hS (by unfold mDeP; rw [if_neg c_has, hF0, hN0]; exact ⟨rfl, rfl⟩) d_M_delete_100
              · exact absurd (by subst hM; exact nI_le (Nat.le_refl 64) (by decide)) c_h1
            · intro i hi ih H locs ls hP hS hl
              refine lv_iload S.1 S.2.1 d_M_delete_52 (lv_at hl 0 rfl) ?_
              refine lv_bipush (v := 64) S.1 S.2.1 d_M_delete_54 (by decide) ?_
              refine lv_icmp_ge (tgt := 90) S.1 S.2.1 d_M_delete_56 (by decide) (fun c_h1 => ?_) (fun c_h1 => ?_)
              · exact absurd c_h1 (nI_ge (b := 64) (by omega) (by decide))
              · refine lv_iload S.1 S.2.1 d_M_delete_59 (lv_at hl 2 rfl) ?_
                refine lv_if_lt (tgt := 84) S.1 S.2.1 d_M_delete_61 (by decide) (fun c_3 => ?_) (fun c_3 => ?_)
                · exact absurd c_3 (nI_pos (by omega))
                · refine lv_aload_n S.1 S.2.1 d_M_delete_64 rfl (lv_at hl 4 rfl) ?_
                  refine lv_iload S.1 S.2.1 d_M_delete_65 (lv_at hl 3 rfl) ?_
                  refine lv_iload S.1 S.2.1 d_M_delete_67 (lv_at hl 0 rfl) ?_
                  refine uVi (n := 2) (b := 0) (As := [.int (nI p0), .int (nI i)]) (rest := []) S hK hN hP hS (c_M_moveOf hJ (mDl (mNo (up2 w 0 0 0) F M (some px)) p0 px i) p0 i (by omega) (by omega)) ⟨hU, t4_39, t4_36, t1_8, by decide +kernel, by decide, by decide⟩ t4_38 tp_17 (by decide) mg_obj rfl rfl rfl hl.1 rfl (Nat.le_of_ble_eq_true rfl) d_M_delete_69 ⟨Nat.le_of_ble_eq_true rfl, Nat.le_of_ble_eq_true rfl⟩ (fun r u H locs hp hP hS => ?_)
                  obtain ⟨hu, rfl⟩ := hp
                  rw [hu] at hP
                  refine lv_iconst (v := (-1)) S.1 S.2.1 d_M_delete_72 (by decide) ?_
                  refine lv_icmp_eq (tgt := 84) S.1 S.2.1 d_M_delete_73 (by decide) (fun c_b => ?_) (fun c_b => ?_)
                  · refine lv_iinc (v := nI (i + 1)) (lv' := [(7, .int (nI (i + 1))), (6, .int (mMv (up2 w 0 0 0) p0 M)), (5, .int (nI px)), (4, .int (nI p0)), (0, .ref (ad 0)), (1, .int a), (2, .int b), (3, .int x)]) S.1 S.2.1 d_M_delete_84 hl (k := 0) rfl (nI_1 i) (by decide) rfl (fun ls hl => ?_)
                    refine lv_goto (tgt := 52) S.1 S.2.1 d_M_delete_87 (by decide) ?_
                    exact ih _ _ ls (by rw [mDl, if_pos c_b]; exact hP) hS (lv_sub hl [0, 1, 2, 3, 4, 5, 6, 7] rfl)
                  · refine lv_aload_n S.1 S.2.1 d_M_delete_76 rfl (lv_at hl 4 rfl) ?_
                    refine lv_iload S.1 S.2.1 d_M_delete_77 (lv_at hl 2 rfl) ?_
                    refine lv_iload S.1 S.2.1 d_M_delete_79 (lv_at hl 0 rfl) ?_
                    refine uVv (n := 2) (b := 0) (As := [.int (nI px), .int (nI i)]) (rest := []) S hK hN hP hS (c_M_keep hJ (mDl (mNo (up2 w 0 0 0) F M (some px)) p0 px i) px i (by omega) (by omega)) ⟨hU, t4_83, t4_80, t1_8, by decide +kernel, by decide, by decide⟩ t4_82 tp_28 (by decide) mg_obj rfl rfl rfl hl.1 rfl (Nat.le_of_ble_eq_true rfl) d_M_delete_81 ⟨Nat.le_of_ble_eq_true rfl, Nat.le_of_ble_eq_true rfl⟩ (fun u H locs hp hP hS => ?_)
                    rw [hp] at hP
                    refine lv_iinc (v := nI (i + 1)) (lv' := [(7, .int (nI (i + 1))), (6, .int (mMv (up2 w 0 0 0) p0 M)), (5, .int (nI px)), (4, .int (nI p0)), (0, .ref (ad 0)), (1, .int a), (2, .int b), (3, .int x)]) S.1 S.2.1 d_M_delete_84 hl (k := 0) rfl (nI_1 i) (by decide) rfl (fun ls hl => ?_)
                    refine lv_goto (tgt := 52) S.1 S.2.1 d_M_delete_87 (by decide) ?_
                    exact ih _ _ ls (by rw [mDl, if_neg c_b]; exact hP) hS (lv_sub hl [0, 1, 2, 3, 4, 5, 6, 7] rfl)
          exact L 0 (Nat.zero_le _) _ _ ls hP hS (lv_sub hl [0, 1, 2, 3, 4, 5, 6, 7] rfl)
  · have c_has := pI_no c_has
    rw [if_pos (Decidable.not_not.mp c_has)] at hP
    refine lv_iconst (v := 0) S.1 S.2.1 d_M_delete_9 (by decide) ?_
    exact uIret S hr hlk (up2 w 0 0 1) hP hS (by unfold mDeP; rw [if_pos (Decidable.not_not.mp c_has)]; exact ⟨rfl, rfl⟩) d_M_delete_10

set_option maxRecDepth 100000 in
set_option maxHeartbeats 4000000 in
theorem c_M_block {l : Launch} {D : va_G} {ca : Nat → ClassId} {ad : Nat → Nat} (hJ : uJ 22 ad) (w : Nat → Nat → Int32) (M : Nat) (hM : M = 64) (F : Nat) (hF : F = 40) (a b x : Int32) : uMi l y_M_block b_M_block 8 (some .int) 4 94 D clsAll (tysAll ca) 22 ad (mG ca ad) w [.ref (ad 0), .int a, .int b, .int x] (fun r u => mBlP w a b x F M r u) := by
  refine uStart (by decide) (Nat.le_of_ble_eq_true rfl) ?_
  intro p e s m below meth c ls S hr hlk hK hN hP hl
  have hU : ∀ w ∈ uWS, w ∈ (Cond.code y_M_block b_M_block 8 (some .int) :: uWS) := fun w h => List.mem_cons_of_mem _ h
  have hS : va_S (uA 22 ad s.heap.size) s.heap s.heap [] := va_S.rf
  have hl : lv_has ls 8 [(0, .ref (ad 0)), (1, .int a), (2, .int b), (3, .int x)] := hl
  refine lv_aload_n S.1 S.2.1 d_M_block_0 rfl (lv_at hl 0 rfl) ?_
  refine lv_iload_n S.1 S.2.1 d_M_block_1 rfl (lv_at hl 1 rfl) ?_
  refine lv_iload_n S.1 S.2.1 d_M_block_2 rfl (lv_at hl 2 rfl) ?_
  refine uVi (n := 2) (b := 0) (As := [.int a, .int b]) (rest := []) S hK hN hP hS (c_M_has hJ w F hF a b) ⟨hU, t4_91, t4_88, t1_8, by decide +kernel, by decide, by decide⟩ t4_90 tp_29 (by decide) mg_obj rfl rfl rfl hl.1 rfl (Nat.le_of_ble_eq_true rfl) d_M_block_3 ⟨Nat.le_of_ble_eq_true rfl, Nat.le_of_ble_eq_true rfl⟩ (fun r u H locs hp hP hS => ?_)
  obtain ⟨hu, rfl⟩ := hp
  rw [hu] at hP
  refine lv_if_ne (tgt := 11) S.1 S.2.1 d_M_block_6 (by decide) (fun c_has => ?_) (fun c_has => ?_)
  · have c_has := pI_yes c_has
    rw [if_neg c_has] at hP
    refine lv_aload_n S.1 S.2.1 d_M_block_11 rfl (lv_at hl 0 rfl) ?_
    refine lv_iload_n S.1 S.2.1 d_M_block_12 rfl (lv_at hl 1 rfl) ?_
    refine lv_iload_n S.1 S.2.1 d_M_block_13 rfl (lv_at hl 2 rfl) ?_
    refine uVi (n := 2) (b := 0) (As := [.int a, .int b]) (rest := []) S hK hN hP hS (c_M_find hJ (up2 w 0 0 0) F hF a b) ⟨hU, t4_31, t4_28, t1_8, by decide +kernel, by decide, by decide⟩ t4_30 tp_15 (by decide) mg_obj rfl rfl rfl hl.1 rfl (Nat.le_of_ble_eq_true rfl) d_M_block_14 ⟨Nat.le_of_ble_eq_true rfl, Nat.le_of_ble_eq_true rfl⟩ (fun r u H locs hp hP hS => ?_)
    obtain ⟨hu, rfl⟩ := hp
    rw [hu] at hP
    rcases hF0 : mFnd (up2 w 0 0 0) a b F with _ | p0
    · exact absurd (by rw [← mFnd_0 (x := 0)]; exact hF0) c_has
    · have hp0 := mFnd_lt _ _ hF0
      refine lv_istore (lv' := [(4, .int (nI p0)), (0, .ref (ad 0)), (1, .int a), (2, .int b), (3, .int x)]) S.1 S.2.1 d_M_block_17 hl (by decide) rfl (fun ls hl => ?_)
      refine lv_iconst (v := 0) S.1 S.2.1 d_M_block_19 (by decide) ?_
      refine lv_istore (lv' := [(5, .int 0), (4, .int (nI p0)), (0, .ref (ad 0)), (1, .int a), (2, .int b), (3, .int x)]) S.1 S.2.1 d_M_block_20 hl (by decide) rfl (fun ls hl => ?_)
      refine lv_iconst (v := 0) S.1 S.2.1 d_M_block_22 (by decide) ?_
      refine lv_istore (lv' := [(6, .int 0), (5, .int 0), (4, .int (nI p0)), (0, .ref (ad 0)), (1, .int a), (2, .int b), (3, .int x)]) S.1 S.2.1 d_M_block_23 hl (by decide) rfl (fun ls hl => ?_)
      have L : ∀ i, i ≤ M → ∀ (H : Heap) (locs : List Loc) (ls : Array Slot), va_P D clsAll (uw 22 ad (mG ca ad (up2 w 0 0 0))) H → va_S (uA 22 ad s.heap.size) s.heap H locs → lv_has ls 8 [(6, .int (nI i)), (5, .int (mBc (up2 w 0 0 0) a b p0 F i)), (4, .int (nI p0)), (0, .ref (ad 0)), (1, .int a), (2, .int b), (3, .int x)] → uGi 4 94 D clsAll 22 ad (mG ca ad) (fun r u => mBlP w a b x F M r u) [.ref (ad 0), .int a, .int b, .int x] p l e s m below meth c H locs 25 ls [] := by
        refine upTo M ?_ ?_
        · intro H locs ls hP hS hl
          refine lv_iload S.1 S.2.1 d_M_block_25 (lv_at hl 0 rfl) ?_
          refine lv_bipush (v := 64) S.1 S.2.1 d_M_block_27 (by decide) ?_
          refine lv_icmp_ge (tgt := 71) S.1 S.2.1 d_M_block_29 (by decide) (fun c_h1 => ?_) (fun c_h1 => ?_)
          · refine lv_aload_n S.1 S.2.1 d_M_block_71 rfl (lv_at hl 3 rfl) ?_
            refine lv_iload_n S.1 S.2.1 d_M_block_72 rfl (lv_at hl 6 rfl) ?_
            refine lv_if_eq (tgt := 93) S.1 S.2.1 d_M_block_73 (by decide) (fun c_z0 => ?_) (fun c_z0 => ?_)
            · refine lv_iconst (v := 0) S.1 S.2.1 d_M_block_93 (by decide) ?_
              refine ur_put (k := 0) (v := .int 0) (g' := mG ca ad (up2 (up2 w 0 0 0) 0 0 0)) S hK hP (uD _ hJ) hS (by decide) mg_obj rfl (fun w h => hU w (in_M w h)) ty_M tyk_M nm_M 0 (by decide) (hU _ t3_160) rfl rfl rfl (Nat.le_of_ble_eq_true rfl) ms_thr d_M_block_94 (fun H locs hP hS => ?_)
              refine lv_aload_n S.1 S.2.1 d_M_block_97 rfl (lv_at hl 3 rfl) ?_
              refine ur_get (k := 0) (v := .int ((up2 (up2 w 0 0 0) 0 0 0) 0 0)) S hK hP (by decide) mg_obj rfl (fun w h => hU w (in_M w h)) 0 (by decide) (hU _ t3_160) rfl d_M_block_98 ?_
              rw [up2_s]
              refine lv_if_le (tgt := 106) S.1 S.2.1 d_M_block_101 (by decide) (fun c_1 => ?_) (fun c_1 => ?_)
              · by_cases c_z : x = 0
                · refine lv_aload_n S.1 S.2.1 d_M_block_106 rfl (lv_at hl 3 rfl) ?_
                  refine lv_iload S.1 S.2.1 d_M_block_107 (lv_at hl 2 rfl) ?_
                  refine uVv (n := 1) (b := 0) (As := [.int (nI p0)]) (rest := []) S hK hN hP hS (c_M_noteO hJ (up2 (up2 w 0 0 0) 0 0 0) M hM F hF (some p0) (fun q h => by cases h; omega)) ⟨hU, t4_59, t4_56, t1_8, by decide +kernel, by decide, by decide⟩ t4_58 tp_22 (by decide) mg_obj rfl rfl rfl hl.1 rfl (Nat.le_of_ble_eq_true rfl) d_M_block_109 ⟨Nat.le_of_ble_eq_true rfl, Nat.le_of_ble_eq_true rfl⟩ (fun u H locs hp hP hS => ?_)
                  rw [hp] at hP
                  refine lv_iconst (v := 0) S.1 S.2.1 d_M_block_112 (by decide) ?_
                  refine lv_istore (lv' := [(6, .int 0), (5, .int (mBc (up2 w 0 0 0) a b p0 F M)), (4, .int (nI p0)), (0, .ref (ad 0)), (1, .int a), (2, .int b), (3, .int x)]) S.1 S.2.1 d_M_block_113 hl (by decide) rfl (fun ls hl => ?_)
                  have L2 : ∀ i, i ≤ M → ∀ (H : Heap) (locs : List Loc) (ls : Array Slot), va_P D clsAll (uw 22 ad (mG ca ad (mBu (mNt (up2 (up2 w 0 0 0) 0 0 0) p0 F M) a b p0 F i))) H → va_S (uA 22 ad s.heap.size) s.heap H locs → lv_has ls 8 [(6, .int (nI i)), (4, .int (nI p0)), (0, .ref (ad 0)), (1, .int a), (2, .int b), (3, .int x)] → uGi 4 94 D clsAll 22 ad (mG ca ad) (fun r u => mBlP w a b x F M r u) [.ref (ad 0), .int a, .int b, .int x] p l e s m below meth c H locs 115 ls [] := by
                    refine upTo M ?_ ?_
                    · intro H locs ls hP hS hl
                      refine lv_iload S.1 S.2.1 d_M_block_115 (lv_at hl 0 rfl) ?_
                      refine lv_bipush (v := 64) S.1 S.2.1 d_M_block_117 (by decide) ?_
                      refine lv_icmp_ge (tgt := 208) S.1 S.2.1 d_M_block_119 (by decide) (fun c_h2 => ?_) (fun c_h2 => ?_)
                      · refine lv_aload_n S.1 S.2.1 d_M_block_208 rfl (lv_at hl 2 rfl) ?_
                        refine lv_iload S.1 S.2.1 d_M_block_209 (lv_at hl 1 rfl) ?_
                        refine uVi (n := 1) (b := 0) (As := [.int (nI p0)]) (rest := []) S hK hN hP hS (c_M_movesOf hJ (mBu (mNt (up2 (up2 w 0 0 0) 0 0 0) p0 F M) a b p0 F M) M hM p0 (by omega)) ⟨hU, t4_51, t4_48, t1_8, by decide +kernel, by decide, by decide⟩ t4_50 tp_20 (by decide) mg_obj rfl rfl rfl hl.1 rfl (Nat.le_of_ble_eq_true rfl) d_M_block_211 ⟨Nat.le_of_ble_eq_true rfl, Nat.le_of_ble_eq_true rfl⟩ (fun r u H locs hp hP hS => ?_)
                        obtain ⟨hu, rfl⟩ := hp
                        rw [hu] at hP
                        exact uIret S hr hlk (mBu (mNt (up2 (up2 w 0 0 0) 0 0 0) p0 F M) a b p0 F M) hP hS (by unfold mBlP; rw [if_neg c_has, hF0]; show ite _ _ _; rw [if_neg (fun z => z.1 c_z0)]; unfold mBX; rw [if_pos c_z]; exact ⟨rfl, rfl⟩) d_M_block_214
                      · exact absurd (by subst hM; exact nI_le (Nat.le_refl 64) (by decide)) c_h2
                    · intro i hi ih H locs ls hP hS hl
                      refine lv_iload S.1 S.2.1 d_M_block_115 (lv_at hl 0 rfl) ?_
                      refine lv_bipush (v := 64) S.1 S.2.1 d_M_block_117 (by decide) ?_
                      refine lv_icmp_ge (tgt := 208) S.1 S.2.1 d_M_block_119 (by decide) (fun c_h2 => ?_) (fun c_h2 => ?_)
                      · exact absurd c_h2 (nI_ge (b := 64) (by omega) (by decide))
                      · refine lv_aload_n S.1 S.2.1 d_M_block_122 rfl (lv_at hl 2 rfl) ?_
                        refine lv_iload_n S.1 S.2.1 d_M_block_123 rfl (lv_at hl 3 rfl) ?_
                        refine lv_iload_n S.1 S.2.1 d_M_block_124 rfl (lv_at hl 4 rfl) ?_
                        refine lv_iconst (v := 1) S.1 S.2.1 d_M_block_125 (by decide) ?_
                        refine lv_isub S.1 S.2.1 d_M_block_126 ?_
                        refine lv_iload S.1 S.2.1 d_M_block_127 (lv_at hl 0 rfl) ?_
                        refine uVi (n := 3) (b := 0) (As := [.int a, .int (b - 1), .int (nI i)]) (rest := []) S hK hN hP hS (c_M_tracked hJ (mBu (mNt (up2 (up2 w 0 0 0) 0 0 0) p0 F M) a b p0 F i) F hF a (b - 1) i (by omega)) ⟨hU, t4_63, t4_60, t1_8, by decide +kernel, by decide, by decide⟩ t4_62 tp_23 (by decide) mg_obj rfl rfl rfl hl.1 rfl (Nat.le_of_ble_eq_true rfl) d_M_block_129 ⟨Nat.le_of_ble_eq_true rfl, Nat.le_of_ble_eq_true rfl⟩ (fun r u H locs hp hP hS => ?_)
                        obtain ⟨hu, rfl⟩ := hp
                        rw [hu] at hP
                        refine lv_istore (lv' := [(7, .int (mTrk (mBu (mNt (up2 (up2 w 0 0 0) 0 0 0) p0 F M) a b p0 F i) a (b - 1) i F)), (6, .int (nI i)), (4, .int (nI p0)), (0, .ref (ad 0)), (1, .int a), (2, .int b), (3, .int x)]) S.1 S.2.1 d_M_block_132 hl (by decide) rfl (fun ls hl => ?_)
                        refine lv_iload_n S.1 S.2.1 d_M_block_134 rfl (lv_at hl 6 rfl) ?_
                        refine lv_if_eq (tgt := 156) S.1 S.2.1 d_M_block_135 (by decide) (fun c_y => ?_) (fun c_y => absurd c_z c_y)
                        refine lv_aload_n S.1 S.2.1 d_M_block_156 rfl (lv_at hl 3 rfl) ?_
                        refine lv_iload S.1 S.2.1 d_M_block_157 (lv_at hl 2 rfl) ?_
                        refine lv_iload S.1 S.2.1 d_M_block_159 (lv_at hl 1 rfl) ?_
                        refine uVi (n := 2) (b := 0) (As := [.int (nI p0), .int (nI i)]) (rest := []) S hK hN hP hS (c_M_moveOf hJ (mBu (mNt (up2 (up2 w 0 0 0) 0 0 0) p0 F M) a b p0 F i) p0 i (by omega) (by omega)) ⟨hU, t4_39, t4_36, t1_8, by decide +kernel, by decide, by decide⟩ t4_38 tp_17 (by decide) mg_obj rfl rfl rfl hl.1 rfl (Nat.le_of_ble_eq_true rfl) d_M_block_161 ⟨Nat.le_of_ble_eq_true rfl, Nat.le_of_ble_eq_true rfl⟩ (fun r u H locs hp hP hS => ?_)
                        obtain ⟨hu, rfl⟩ := hp
                        rw [hu] at hP
                        refine lv_iconst (v := (-1)) S.1 S.2.1 d_M_block_164 (by decide) ?_
                        refine lv_icmp_eq (tgt := 202) S.1 S.2.1 d_M_block_165 (by decide) (fun c_o => ?_) (fun c_o => ?_)
                        · refine lv_iinc (v := nI (i + 1)) (lv' := [(6, .int (nI (i + 1))), (7, .int (mTrk (mBu (mNt (up2 (up2 w 0 0 0) 0 0 0) p0 F M) a b p0 F i) a (b - 1) i F)), (4, .int (nI p0)), (0, .ref (ad 0)), (1, .int a), (2, .int b), (3, .int x)]) S.1 S.2.1 d_M_block_202 hl (k := 1) rfl (nI_1 i) (by decide) rfl (fun ls hl => ?_)
                          refine lv_goto (tgt := 115) S.1 S.2.1 d_M_block_205 (by decide) ?_
                          exact ih _ _ ls (by rw [mBu, if_neg (fun z => z.1 c_o)]; exact hP) hS (lv_sub hl [0, 2, 3, 4, 5, 6] rfl)
                        · refine lv_aload_n S.1 S.2.1 d_M_block_168 rfl (lv_at hl 3 rfl) ?_
                          refine lv_iload S.1 S.2.1 d_M_block_169 (lv_at hl 2 rfl) ?_
                          refine lv_iload S.1 S.2.1 d_M_block_171 (lv_at hl 1 rfl) ?_
                          refine uVi (n := 2) (b := 0) (As := [.int (nI p0), .int (nI i)]) (rest := []) S hK hN hP hS (c_M_moveOf hJ (mBu (mNt (up2 (up2 w 0 0 0) 0 0 0) p0 F M) a b p0 F i) p0 i (by omega) (by omega)) ⟨hU, t4_39, t4_36, t1_8, by decide +kernel, by decide, by decide⟩ t4_38 tp_17 (by decide) mg_obj rfl rfl rfl hl.1 rfl (Nat.le_of_ble_eq_true rfl) d_M_block_173 ⟨Nat.le_of_ble_eq_true rfl, Nat.le_of_ble_eq_true rfl⟩ (fun r u H locs hp hP hS => ?_)
                          obtain ⟨hu, rfl⟩ := hp
                          rw [hu] at hP
                          refine lv_iload S.1 S.2.1 d_M_block_176 (lv_at hl 0 rfl) ?_
                          refine lv_iconst (v := (-1)) S.1 S.2.1 d_M_block_178 (by decide) ?_
                          refine lv_icmp_ne (tgt := 188) S.1 S.2.1 d_M_block_179 (by decide) (fun c_u => ?_) (fun c_u => ?_)
                          · refine lv_iload S.1 S.2.1 d_M_block_188 (lv_at hl 0 rfl) ?_
                            refine lv_icmp_ne (tgt := 202) S.1 S.2.1 d_M_block_190 (by decide) (fun c_e => ?_) (fun c_e => ?_)
                            · refine lv_iinc (v := nI (i + 1)) (lv' := [(6, .int (nI (i + 1))), (7, .int (mTrk (mBu (mNt (up2 (up2 w 0 0 0) 0 0 0) p0 F M) a b p0 F i) a (b - 1) i F)), (4, .int (nI p0)), (0, .ref (ad 0)), (1, .int a), (2, .int b), (3, .int x)]) S.1 S.2.1 d_M_block_202 hl (k := 1) rfl (nI_1 i) (by decide) rfl (fun ls hl => ?_)
                              refine lv_goto (tgt := 115) S.1 S.2.1 d_M_block_205 (by decide) ?_
                              exact ih _ _ ls (by rw [mBu, if_neg (fun z => c_e (by have y := z.2; unfold mUn at y; rw [if_neg c_u] at y; exact y))]; exact hP) hS (lv_sub hl [0, 2, 3, 4, 5, 6] rfl)
                            · refine lv_aload_n S.1 S.2.1 d_M_block_193 rfl (lv_at hl 3 rfl) ?_
                              refine lv_iload S.1 S.2.1 d_M_block_194 (lv_at hl 2 rfl) ?_
                              refine lv_iload S.1 S.2.1 d_M_block_196 (lv_at hl 1 rfl) ?_
                              refine lv_iconst (v := (-1)) S.1 S.2.1 d_M_block_198 (by decide) ?_
                              refine uVv (n := 3) (b := 0) (As := [.int (nI p0), .int (nI i), .int (-1)]) (rest := []) S hK hN hP hS (c_M_put hJ (mBu (mNt (up2 (up2 w 0 0 0) 0 0 0) p0 F M) a b p0 F i) p0 i (by omega) (by omega) (-1)) ⟨hU, t4_79, t4_76, t1_8, by decide +kernel, by decide, by decide⟩ t4_78 tp_27 (by decide) mg_obj rfl rfl rfl hl.1 rfl (Nat.le_of_ble_eq_true rfl) d_M_block_199 ⟨Nat.le_of_ble_eq_true rfl, Nat.le_of_ble_eq_true rfl⟩ (fun u H locs hp hP hS => ?_)
                              rw [hp] at hP
                              refine lv_iinc (v := nI (i + 1)) (lv' := [(6, .int (nI (i + 1))), (7, .int (mTrk (mBu (mNt (up2 (up2 w 0 0 0) 0 0 0) p0 F M) a b p0 F i) a (b - 1) i F)), (4, .int (nI p0)), (0, .ref (ad 0)), (1, .int a), (2, .int b), (3, .int x)]) S.1 S.2.1 d_M_block_202 hl (k := 1) rfl (nI_1 i) (by decide) rfl (fun ls hl => ?_)
                              refine lv_goto (tgt := 115) S.1 S.2.1 d_M_block_205 (by decide) ?_
                              exact ih _ _ ls (by rw [mBu, if_pos ⟨c_o, by unfold mUn; rw [if_neg c_u]; exact c_e⟩]; exact hP) hS (lv_sub hl [0, 2, 3, 4, 5, 6] rfl)
                          · refine lv_sipush (v := 300) S.1 S.2.1 d_M_block_182 (by decide) ?_
                            refine lv_goto (tgt := 190) S.1 S.2.1 d_M_block_185 (by decide) ?_
                            refine lv_icmp_ne (tgt := 202) S.1 S.2.1 d_M_block_190 (by decide) (fun c_e => ?_) (fun c_e => ?_)
                            · refine lv_iinc (v := nI (i + 1)) (lv' := [(6, .int (nI (i + 1))), (7, .int (mTrk (mBu (mNt (up2 (up2 w 0 0 0) 0 0 0) p0 F M) a b p0 F i) a (b - 1) i F)), (4, .int (nI p0)), (0, .ref (ad 0)), (1, .int a), (2, .int b), (3, .int x)]) S.1 S.2.1 d_M_block_202 hl (k := 1) rfl (nI_1 i) (by decide) rfl (fun ls hl => ?_)
                              refine lv_goto (tgt := 115) S.1 S.2.1 d_M_block_205 (by decide) ?_
                              exact ih _ _ ls (by rw [mBu, if_neg (fun z => c_e (by have y := z.2; unfold mUn at y; rw [if_pos c_u] at y; exact y))]; exact hP) hS (lv_sub hl [0, 2, 3, 4, 5, 6] rfl)
                            · refine lv_aload_n S.1 S.2.1 d_M_block_193 rfl (lv_at hl 3 rfl) ?_
                              refine lv_iload S.1 S.2.1 d_M_block_194 (lv_at hl 2 rfl) ?_
                              refine lv_iload S.1 S.2.1 d_M_block_196 (lv_at hl 1 rfl) ?_
                              refine lv_iconst (v := (-1)) S.1 S.2.1 d_M_block_198 (by decide) ?_
                              refine uVv (n := 3) (b := 0) (As := [.int (nI p0), .int (nI i), .int (-1)]) (rest := []) S hK hN hP hS (c_M_put hJ (mBu (mNt (up2 (up2 w 0 0 0) 0 0 0) p0 F M) a b p0 F i) p0 i (by omega) (by omega) (-1)) ⟨hU, t4_79, t4_76, t1_8, by decide +kernel, by decide, by decide⟩ t4_78 tp_27 (by decide) mg_obj rfl rfl rfl hl.1 rfl (Nat.le_of_ble_eq_true rfl) d_M_block_199 ⟨Nat.le_of_ble_eq_true rfl, Nat.le_of_ble_eq_true rfl⟩ (fun u H locs hp hP hS => ?_)
                              rw [hp] at hP
                              refine lv_iinc (v := nI (i + 1)) (lv' := [(6, .int (nI (i + 1))), (7, .int (mTrk (mBu (mNt (up2 (up2 w 0 0 0) 0 0 0) p0 F M) a b p0 F i) a (b - 1) i F)), (4, .int (nI p0)), (0, .ref (ad 0)), (1, .int a), (2, .int b), (3, .int x)]) S.1 S.2.1 d_M_block_202 hl (k := 1) rfl (nI_1 i) (by decide) rfl (fun ls hl => ?_)
                              refine lv_goto (tgt := 115) S.1 S.2.1 d_M_block_205 (by decide) ?_
                              exact ih _ _ ls (by rw [mBu, if_pos ⟨c_o, by unfold mUn; rw [if_pos c_u]; exact c_e⟩]; exact hP) hS (lv_sub hl [0, 2, 3, 4, 5, 6] rfl)
                  exact L2 0 (Nat.zero_le _) _ _ ls hP hS (lv_sub hl [0, 2, 3, 4, 5, 6] rfl)
                · refine lv_aload_n S.1 S.2.1 d_M_block_106 rfl (lv_at hl 3 rfl) ?_
                  refine lv_iload S.1 S.2.1 d_M_block_107 (lv_at hl 2 rfl) ?_
                  refine uVv (n := 1) (b := 0) (As := [.int (nI p0)]) (rest := []) S hK hN hP hS (c_M_noteO hJ (up2 (up2 w 0 0 0) 0 0 0) M hM F hF (some p0) (fun q h => by cases h; omega)) ⟨hU, t4_59, t4_56, t1_8, by decide +kernel, by decide, by decide⟩ t4_58 tp_22 (by decide) mg_obj rfl rfl rfl hl.1 rfl (Nat.le_of_ble_eq_true rfl) d_M_block_109 ⟨Nat.le_of_ble_eq_true rfl, Nat.le_of_ble_eq_true rfl⟩ (fun u H locs hp hP hS => ?_)
                  rw [hp] at hP
                  refine lv_iconst (v := 0) S.1 S.2.1 d_M_block_112 (by decide) ?_
                  refine lv_istore (lv' := [(6, .int 0), (5, .int (mBc (up2 w 0 0 0) a b p0 F M)), (4, .int (nI p0)), (0, .ref (ad 0)), (1, .int a), (2, .int b), (3, .int x)]) S.1 S.2.1 d_M_block_113 hl (by decide) rfl (fun ls hl => ?_)
                  have L2 : ∀ i, i ≤ M → ∀ (H : Heap) (locs : List Loc) (ls : Array Slot), va_P D clsAll (uw 22 ad (mG ca ad (mBb (mNt (up2 (up2 w 0 0 0) 0 0 0) p0 F M) p0 i))) H → va_S (uA 22 ad s.heap.size) s.heap H locs → lv_has ls 8 [(6, .int (nI i)), (4, .int (nI p0)), (0, .ref (ad 0)), (1, .int a), (2, .int b), (3, .int x)] → uGi 4 94 D clsAll 22 ad (mG ca ad) (fun r u => mBlP w a b x F M r u) [.ref (ad 0), .int a, .int b, .int x] p l e s m below meth c H locs 115 ls [] := by
                    refine upTo M ?_ ?_
                    · intro H locs ls hP hS hl
                      refine lv_iload S.1 S.2.1 d_M_block_115 (lv_at hl 0 rfl) ?_
                      refine lv_bipush (v := 64) S.1 S.2.1 d_M_block_117 (by decide) ?_
                      refine lv_icmp_ge (tgt := 208) S.1 S.2.1 d_M_block_119 (by decide) (fun c_h2 => ?_) (fun c_h2 => ?_)
                      · refine lv_aload_n S.1 S.2.1 d_M_block_208 rfl (lv_at hl 2 rfl) ?_
                        refine lv_iload S.1 S.2.1 d_M_block_209 (lv_at hl 1 rfl) ?_
                        refine uVi (n := 1) (b := 0) (As := [.int (nI p0)]) (rest := []) S hK hN hP hS (c_M_movesOf hJ (mBb (mNt (up2 (up2 w 0 0 0) 0 0 0) p0 F M) p0 M) M hM p0 (by omega)) ⟨hU, t4_51, t4_48, t1_8, by decide +kernel, by decide, by decide⟩ t4_50 tp_20 (by decide) mg_obj rfl rfl rfl hl.1 rfl (Nat.le_of_ble_eq_true rfl) d_M_block_211 ⟨Nat.le_of_ble_eq_true rfl, Nat.le_of_ble_eq_true rfl⟩ (fun r u H locs hp hP hS => ?_)
                        obtain ⟨hu, rfl⟩ := hp
                        rw [hu] at hP
                        exact uIret S hr hlk (mBb (mNt (up2 (up2 w 0 0 0) 0 0 0) p0 F M) p0 M) hP hS (by unfold mBlP; rw [if_neg c_has, hF0]; show ite _ _ _; rw [if_neg (fun z => z.1 c_z0)]; unfold mBX; rw [if_neg c_z]; exact ⟨rfl, rfl⟩) d_M_block_214
                      · exact absurd (by subst hM; exact nI_le (Nat.le_refl 64) (by decide)) c_h2
                    · intro i hi ih H locs ls hP hS hl
                      refine lv_iload S.1 S.2.1 d_M_block_115 (lv_at hl 0 rfl) ?_
                      refine lv_bipush (v := 64) S.1 S.2.1 d_M_block_117 (by decide) ?_
                      refine lv_icmp_ge (tgt := 208) S.1 S.2.1 d_M_block_119 (by decide) (fun c_h2 => ?_) (fun c_h2 => ?_)
                      · exact absurd c_h2 (nI_ge (b := 64) (by omega) (by decide))
                      · refine lv_aload_n S.1 S.2.1 d_M_block_122 rfl (lv_at hl 2 rfl) ?_
                        refine lv_iload_n S.1 S.2.1 d_M_block_123 rfl (lv_at hl 3 rfl) ?_
                        refine lv_iload_n S.1 S.2.1 d_M_block_124 rfl (lv_at hl 4 rfl) ?_
                        refine lv_iconst (v := 1) S.1 S.2.1 d_M_block_125 (by decide) ?_
                        refine lv_isub S.1 S.2.1 d_M_block_126 ?_
                        refine lv_iload S.1 S.2.1 d_M_block_127 (lv_at hl 0 rfl) ?_
                        refine uVi (n := 3) (b := 0) (As := [.int a, .int (b - 1), .int (nI i)]) (rest := []) S hK hN hP hS (c_M_tracked hJ (mBb (mNt (up2 (up2 w 0 0 0) 0 0 0) p0 F M) p0 i) F hF a (b - 1) i (by omega)) ⟨hU, t4_63, t4_60, t1_8, by decide +kernel, by decide, by decide⟩ t4_62 tp_23 (by decide) mg_obj rfl rfl rfl hl.1 rfl (Nat.le_of_ble_eq_true rfl) d_M_block_129 ⟨Nat.le_of_ble_eq_true rfl, Nat.le_of_ble_eq_true rfl⟩ (fun r u H locs hp hP hS => ?_)
                        obtain ⟨hu, rfl⟩ := hp
                        rw [hu] at hP
                        refine lv_istore (lv' := [(7, .int (mTrk (mBb (mNt (up2 (up2 w 0 0 0) 0 0 0) p0 F M) p0 i) a (b - 1) i F)), (6, .int (nI i)), (4, .int (nI p0)), (0, .ref (ad 0)), (1, .int a), (2, .int b), (3, .int x)]) S.1 S.2.1 d_M_block_132 hl (by decide) rfl (fun ls hl => ?_)
                        refine lv_iload_n S.1 S.2.1 d_M_block_134 rfl (lv_at hl 6 rfl) ?_
                        refine lv_if_eq (tgt := 156) S.1 S.2.1 d_M_block_135 (by decide) (fun c_y => absurd c_y c_z) (fun c_y => ?_)
                        refine lv_aload_n S.1 S.2.1 d_M_block_138 rfl (lv_at hl 3 rfl) ?_
                        refine lv_iload S.1 S.2.1 d_M_block_139 (lv_at hl 2 rfl) ?_
                        refine lv_iload S.1 S.2.1 d_M_block_141 (lv_at hl 1 rfl) ?_
                        refine lv_aload_n S.1 S.2.1 d_M_block_143 rfl (lv_at hl 3 rfl) ?_
                        refine ur_get (k := 0) (v := .ref (ad 11)) S hK hP (by decide) mg_obj rfl (fun w h => hU w (in_M w h)) 11 (by decide) (hU _ t3_171) rfl d_M_block_144 ?_
                        refine lv_iload S.1 S.2.1 d_M_block_147 (lv_at hl 1 rfl) ?_
                        refine ur_sald (k := 11) (n := 64) (f := ((mBb (mNt (up2 (up2 w 0 0 0) 0 0 0) p0 F M) p0 i) 11)) (j := i) S hK hP (by decide) 4 (mg_arr 11 (by decide)) rfl rfl (by omega) (by decide) d_M_block_149 ?_
                        refine uVv (n := 3) (b := 0) (As := [.int (nI p0), .int (nI i), .int (((mBb (mNt (up2 (up2 w 0 0 0) 0 0 0) p0 F M) p0 i) 11) i)]) (rest := []) S hK hN hP hS (c_M_put hJ (mBb (mNt (up2 (up2 w 0 0 0) 0 0 0) p0 F M) p0 i) p0 i (by omega) (by omega) (((mBb (mNt (up2 (up2 w 0 0 0) 0 0 0) p0 F M) p0 i) 11) i)) ⟨hU, t4_79, t4_76, t1_8, by decide +kernel, by decide, by decide⟩ t4_78 tp_27 (by decide) mg_obj rfl rfl rfl hl.1 rfl (Nat.le_of_ble_eq_true rfl) d_M_block_150 ⟨Nat.le_of_ble_eq_true rfl, Nat.le_of_ble_eq_true rfl⟩ (fun u H locs hp hP hS => ?_)
                        rw [hp] at hP
                        refine lv_goto (tgt := 202) S.1 S.2.1 d_M_block_153 (by decide) ?_
                        refine lv_iinc (v := nI (i + 1)) (lv' := [(6, .int (nI (i + 1))), (7, .int (mTrk (mBb (mNt (up2 (up2 w 0 0 0) 0 0 0) p0 F M) p0 i) a (b - 1) i F)), (4, .int (nI p0)), (0, .ref (ad 0)), (1, .int a), (2, .int b), (3, .int x)]) S.1 S.2.1 d_M_block_202 hl (k := 1) rfl (nI_1 i) (by decide) rfl (fun ls hl => ?_)
                        refine lv_goto (tgt := 115) S.1 S.2.1 d_M_block_205 (by decide) ?_
                        exact ih _ _ ls (by rw [mBb]; exact hP) hS (lv_sub hl [0, 2, 3, 4, 5, 6] rfl)
                  exact L2 0 (Nat.zero_le _) _ _ ls hP hS (lv_sub hl [0, 2, 3, 4, 5, 6] rfl)
              · exact absurd (by decide) c_1
            · refine lv_aload_n S.1 S.2.1 d_M_block_76 rfl (lv_at hl 3 rfl) ?_
              refine uVi (n := 0) (b := 0) (As := []) (rest := [.ref (ad 0)]) S hK hN hP hS (c_M_moveCount hJ (up2 w 0 0 0) M hM F hF) ⟨hU, t4_47, t4_44, t1_8, by decide +kernel, by decide, by decide⟩ t4_46 tp_19 (by decide) mg_obj rfl rfl rfl hl.1 rfl (Nat.le_of_ble_eq_true rfl) d_M_block_77 ⟨Nat.le_of_ble_eq_true rfl, Nat.le_of_ble_eq_true rfl⟩ (fun r u H locs hp hP hS => ?_)
              obtain ⟨hu, rfl⟩ := hp
              rw [hu] at hP
              refine lv_iload S.1 S.2.1 d_M_block_80 (lv_at hl 1 rfl) ?_
              refine lv_iadd S.1 S.2.1 d_M_block_82 ?_
              refine lv_sipush (v := 600) S.1 S.2.1 d_M_block_83 (by decide) ?_
              refine lv_icmp_le (tgt := 93) S.1 S.2.1 d_M_block_86 (by decide) (fun c_600 => ?_) (fun c_600 => ?_)
              · refine lv_iconst (v := 0) S.1 S.2.1 d_M_block_93 (by decide) ?_
                refine ur_put (k := 0) (v := .int 0) (g' := mG ca ad (up2 (up2 w 0 0 0) 0 0 0)) S hK hP (uD _ hJ) hS (by decide) mg_obj rfl (fun w h => hU w (in_M w h)) ty_M tyk_M nm_M 0 (by decide) (hU _ t3_160) rfl rfl rfl (Nat.le_of_ble_eq_true rfl) ms_thr d_M_block_94 (fun H locs hP hS => ?_)
                refine lv_aload_n S.1 S.2.1 d_M_block_97 rfl (lv_at hl 3 rfl) ?_
                refine ur_get (k := 0) (v := .int ((up2 (up2 w 0 0 0) 0 0 0) 0 0)) S hK hP (by decide) mg_obj rfl (fun w h => hU w (in_M w h)) 0 (by decide) (hU _ t3_160) rfl d_M_block_98 ?_
                rw [up2_s]
                refine lv_if_le (tgt := 106) S.1 S.2.1 d_M_block_101 (by decide) (fun c_2 => ?_) (fun c_2 => ?_)
                · by_cases c_z : x = 0
                  · refine lv_aload_n S.1 S.2.1 d_M_block_106 rfl (lv_at hl 3 rfl) ?_
                    refine lv_iload S.1 S.2.1 d_M_block_107 (lv_at hl 2 rfl) ?_
                    refine uVv (n := 1) (b := 0) (As := [.int (nI p0)]) (rest := []) S hK hN hP hS (c_M_noteO hJ (up2 (up2 w 0 0 0) 0 0 0) M hM F hF (some p0) (fun q h => by cases h; omega)) ⟨hU, t4_59, t4_56, t1_8, by decide +kernel, by decide, by decide⟩ t4_58 tp_22 (by decide) mg_obj rfl rfl rfl hl.1 rfl (Nat.le_of_ble_eq_true rfl) d_M_block_109 ⟨Nat.le_of_ble_eq_true rfl, Nat.le_of_ble_eq_true rfl⟩ (fun u H locs hp hP hS => ?_)
                    rw [hp] at hP
                    refine lv_iconst (v := 0) S.1 S.2.1 d_M_block_112 (by decide) ?_
                    refine lv_istore (lv' := [(6, .int 0), (5, .int (mBc (up2 w 0 0 0) a b p0 F M)), (4, .int (nI p0)), (0, .ref (ad 0)), (1, .int a), (2, .int b), (3, .int x)]) S.1 S.2.1 d_M_block_113 hl (by decide) rfl (fun ls hl => ?_)
                    have L2 : ∀ i, i ≤ M → ∀ (H : Heap) (locs : List Loc) (ls : Array Slot), va_P D clsAll (uw 22 ad (mG ca ad (mBu (mNt (up2 (up2 w 0 0 0) 0 0 0) p0 F M) a b p0 F i))) H → va_S (uA 22 ad s.heap.size) s.heap H locs → lv_has ls 8 [(6, .int (nI i)), (4, .int (nI p0)), (0, .ref (ad 0)), (1, .int a), (2, .int b), (3, .int x)] → uGi 4 94 D clsAll 22 ad (mG ca ad) (fun r u => mBlP w a b x F M r u) [.ref (ad 0), .int a, .int b, .int x] p l e s m below meth c H locs 115 ls [] := by
                      refine upTo M ?_ ?_
                      · intro H locs ls hP hS hl
                        refine lv_iload S.1 S.2.1 d_M_block_115 (lv_at hl 0 rfl) ?_
                        refine lv_bipush (v := 64) S.1 S.2.1 d_M_block_117 (by decide) ?_
                        refine lv_icmp_ge (tgt := 208) S.1 S.2.1 d_M_block_119 (by decide) (fun c_h2 => ?_) (fun c_h2 => ?_)
                        · refine lv_aload_n S.1 S.2.1 d_M_block_208 rfl (lv_at hl 2 rfl) ?_
                          refine lv_iload S.1 S.2.1 d_M_block_209 (lv_at hl 1 rfl) ?_
                          refine uVi (n := 1) (b := 0) (As := [.int (nI p0)]) (rest := []) S hK hN hP hS (c_M_movesOf hJ (mBu (mNt (up2 (up2 w 0 0 0) 0 0 0) p0 F M) a b p0 F M) M hM p0 (by omega)) ⟨hU, t4_51, t4_48, t1_8, by decide +kernel, by decide, by decide⟩ t4_50 tp_20 (by decide) mg_obj rfl rfl rfl hl.1 rfl (Nat.le_of_ble_eq_true rfl) d_M_block_211 ⟨Nat.le_of_ble_eq_true rfl, Nat.le_of_ble_eq_true rfl⟩ (fun r u H locs hp hP hS => ?_)
                          obtain ⟨hu, rfl⟩ := hp
                          rw [hu] at hP
                          exact uIret S hr hlk (mBu (mNt (up2 (up2 w 0 0 0) 0 0 0) p0 F M) a b p0 F M) hP hS (by unfold mBlP; rw [if_neg c_has, hF0]; show ite _ _ _; rw [if_neg (fun z => z.2 c_600)]; unfold mBX; rw [if_pos c_z]; exact ⟨rfl, rfl⟩) d_M_block_214
                        · exact absurd (by subst hM; exact nI_le (Nat.le_refl 64) (by decide)) c_h2
                      · intro i hi ih H locs ls hP hS hl
                        refine lv_iload S.1 S.2.1 d_M_block_115 (lv_at hl 0 rfl) ?_
                        refine lv_bipush (v := 64) S.1 S.2.1 d_M_block_117 (by decide) ?_
                        refine lv_icmp_ge (tgt := 208) S.1 S.2.1 d_M_block_119 (by decide) (fun c_h2 => ?_) (fun c_h2 => ?_)
                        · exact absurd c_h2 (nI_ge (b := 64) (by omega) (by decide))
                        · refine lv_aload_n S.1 S.2.1 d_M_block_122 rfl (lv_at hl 2 rfl) ?_
                          refine lv_iload_n S.1 S.2.1 d_M_block_123 rfl (lv_at hl 3 rfl) ?_
                          refine lv_iload_n S.1 S.2.1 d_M_block_124 rfl (lv_at hl 4 rfl) ?_
                          refine lv_iconst (v := 1) S.1 S.2.1 d_M_block_125 (by decide) ?_
                          refine lv_isub S.1 S.2.1 d_M_block_126 ?_
                          refine lv_iload S.1 S.2.1 d_M_block_127 (lv_at hl 0 rfl) ?_
                          refine uVi (n := 3) (b := 0) (As := [.int a, .int (b - 1), .int (nI i)]) (rest := []) S hK hN hP hS (c_M_tracked hJ (mBu (mNt (up2 (up2 w 0 0 0) 0 0 0) p0 F M) a b p0 F i) F hF a (b - 1) i (by omega)) ⟨hU, t4_63, t4_60, t1_8, by decide +kernel, by decide, by decide⟩ t4_62 tp_23 (by decide) mg_obj rfl rfl rfl hl.1 rfl (Nat.le_of_ble_eq_true rfl) d_M_block_129 ⟨Nat.le_of_ble_eq_true rfl, Nat.le_of_ble_eq_true rfl⟩ (fun r u H locs hp hP hS => ?_)
                          obtain ⟨hu, rfl⟩ := hp
                          rw [hu] at hP
                          refine lv_istore (lv' := [(7, .int (mTrk (mBu (mNt (up2 (up2 w 0 0 0) 0 0 0) p0 F M) a b p0 F i) a (b - 1) i F)), (6, .int (nI i)), (4, .int (nI p0)), (0, .ref (ad 0)), (1, .int a), (2, .int b), (3, .int x)]) S.1 S.2.1 d_M_block_132 hl (by decide) rfl (fun ls hl => ?_)
                          refine lv_iload_n S.1 S.2.1 d_M_block_134 rfl (lv_at hl 6 rfl) ?_
                          refine lv_if_eq (tgt := 156) S.1 S.2.1 d_M_block_135 (by decide) (fun c_y => ?_) (fun c_y => absurd c_z c_y)
                          refine lv_aload_n S.1 S.2.1 d_M_block_156 rfl (lv_at hl 3 rfl) ?_
                          refine lv_iload S.1 S.2.1 d_M_block_157 (lv_at hl 2 rfl) ?_
                          refine lv_iload S.1 S.2.1 d_M_block_159 (lv_at hl 1 rfl) ?_
                          refine uVi (n := 2) (b := 0) (As := [.int (nI p0), .int (nI i)]) (rest := []) S hK hN hP hS (c_M_moveOf hJ (mBu (mNt (up2 (up2 w 0 0 0) 0 0 0) p0 F M) a b p0 F i) p0 i (by omega) (by omega)) ⟨hU, t4_39, t4_36, t1_8, by decide +kernel, by decide, by decide⟩ t4_38 tp_17 (by decide) mg_obj rfl rfl rfl hl.1 rfl (Nat.le_of_ble_eq_true rfl) d_M_block_161 ⟨Nat.le_of_ble_eq_true rfl, Nat.le_of_ble_eq_true rfl⟩ (fun r u H locs hp hP hS => ?_)
                          obtain ⟨hu, rfl⟩ := hp
                          rw [hu] at hP
                          refine lv_iconst (v := (-1)) S.1 S.2.1 d_M_block_164 (by decide) ?_
                          refine lv_icmp_eq (tgt := 202) S.1 S.2.1 d_M_block_165 (by decide) (fun c_o => ?_) (fun c_o => ?_)
                          · refine lv_iinc (v := nI (i + 1)) (lv' := [(6, .int (nI (i + 1))), (7, .int (mTrk (mBu (mNt (up2 (up2 w 0 0 0) 0 0 0) p0 F M) a b p0 F i) a (b - 1) i F)), (4, .int (nI p0)), (0, .ref (ad 0)), (1, .int a), (2, .int b), (3, .int x)]) S.1 S.2.1 d_M_block_202 hl (k := 1) rfl (nI_1 i) (by decide) rfl (fun ls hl => ?_)
                            refine lv_goto (tgt := 115) S.1 S.2.1 d_M_block_205 (by decide) ?_
                            exact ih _ _ ls (by rw [mBu, if_neg (fun z => z.1 c_o)]; exact hP) hS (lv_sub hl [0, 2, 3, 4, 5, 6] rfl)
                          · refine lv_aload_n S.1 S.2.1 d_M_block_168 rfl (lv_at hl 3 rfl) ?_
                            refine lv_iload S.1 S.2.1 d_M_block_169 (lv_at hl 2 rfl) ?_
                            refine lv_iload S.1 S.2.1 d_M_block_171 (lv_at hl 1 rfl) ?_
                            refine uVi (n := 2) (b := 0) (As := [.int (nI p0), .int (nI i)]) (rest := []) S hK hN hP hS (c_M_moveOf hJ (mBu (mNt (up2 (up2 w 0 0 0) 0 0 0) p0 F M) a b p0 F i) p0 i (by omega) (by omega)) ⟨hU, t4_39, t4_36, t1_8, by decide +kernel, by decide, by decide⟩ t4_38 tp_17 (by decide) mg_obj rfl rfl rfl hl.1 rfl (Nat.le_of_ble_eq_true rfl) d_M_block_173 ⟨Nat.le_of_ble_eq_true rfl, Nat.le_of_ble_eq_true rfl⟩ (fun r u H locs hp hP hS => ?_)
                            obtain ⟨hu, rfl⟩ := hp
                            rw [hu] at hP
                            refine lv_iload S.1 S.2.1 d_M_block_176 (lv_at hl 0 rfl) ?_
                            refine lv_iconst (v := (-1)) S.1 S.2.1 d_M_block_178 (by decide) ?_
                            refine lv_icmp_ne (tgt := 188) S.1 S.2.1 d_M_block_179 (by decide) (fun c_u => ?_) (fun c_u => ?_)
                            · refine lv_iload S.1 S.2.1 d_M_block_188 (lv_at hl 0 rfl) ?_
                              refine lv_icmp_ne (tgt := 202) S.1 S.2.1 d_M_block_190 (by decide) (fun c_e => ?_) (fun c_e => ?_)
                              · refine lv_iinc (v := nI (i + 1)) (lv' := [(6, .int (nI (i + 1))), (7, .int (mTrk (mBu (mNt (up2 (up2 w 0 0 0) 0 0 0) p0 F M) a b p0 F i) a (b - 1) i F)), (4, .int (nI p0)), (0, .ref (ad 0)), (1, .int a), (2, .int b), (3, .int x)]) S.1 S.2.1 d_M_block_202 hl (k := 1) rfl (nI_1 i) (by decide) rfl (fun ls hl => ?_)
                                refine lv_goto (tgt := 115) S.1 S.2.1 d_M_block_205 (by decide) ?_
                                exact ih _ _ ls (by rw [mBu, if_neg (fun z => c_e (by have y := z.2; unfold mUn at y; rw [if_neg c_u] at y; exact y))]; exact hP) hS (lv_sub hl [0, 2, 3, 4, 5, 6] rfl)
                              · refine lv_aload_n S.1 S.2.1 d_M_block_193 rfl (lv_at hl 3 rfl) ?_
                                refine lv_iload S.1 S.2.1 d_M_block_194 (lv_at hl 2 rfl) ?_
                                refine lv_iload S.1 S.2.1 d_M_block_196 (lv_at hl 1 rfl) ?_
                                refine lv_iconst (v := (-1)) S.1 S.2.1 d_M_block_198 (by decide) ?_
                                refine uVv (n := 3) (b := 0) (As := [.int (nI p0), .int (nI i), .int (-1)]) (rest := []) S hK hN hP hS (c_M_put hJ (mBu (mNt (up2 (up2 w 0 0 0) 0 0 0) p0 F M) a b p0 F i) p0 i (by omega) (by omega) (-1)) ⟨hU, t4_79, t4_76, t1_8, by decide +kernel, by decide, by decide⟩ t4_78 tp_27 (by decide) mg_obj rfl rfl rfl hl.1 rfl (Nat.le_of_ble_eq_true rfl) d_M_block_199 ⟨Nat.le_of_ble_eq_true rfl, Nat.le_of_ble_eq_true rfl⟩ (fun u H locs hp hP hS => ?_)
                                rw [hp] at hP
                                refine lv_iinc (v := nI (i + 1)) (lv' := [(6, .int (nI (i + 1))), (7, .int (mTrk (mBu (mNt (up2 (up2 w 0 0 0) 0 0 0) p0 F M) a b p0 F i) a (b - 1) i F)), (4, .int (nI p0)), (0, .ref (ad 0)), (1, .int a), (2, .int b), (3, .int x)]) S.1 S.2.1 d_M_block_202 hl (k := 1) rfl (nI_1 i) (by decide) rfl (fun ls hl => ?_)
                                refine lv_goto (tgt := 115) S.1 S.2.1 d_M_block_205 (by decide) ?_
                                exact ih _ _ ls (by rw [mBu, if_pos ⟨c_o, by unfold mUn; rw [if_neg c_u]; exact c_e⟩]; exact hP) hS (lv_sub hl [0, 2, 3, 4, 5, 6] rfl)
                            · refine lv_sipush (v := 300) S.1 S.2.1 d_M_block_182 (by decide) ?_
                              refine lv_goto (tgt := 190) S.1 S.2.1 d_M_block_185 (by decide) ?_
                              refine lv_icmp_ne (tgt := 202) S.1 S.2.1 d_M_block_190 (by decide) (fun c_e => ?_) (fun c_e => ?_)
                              · refine lv_iinc (v := nI (i + 1)) (lv' := [(6, .int (nI (i + 1))), (7, .int (mTrk (mBu (mNt (up2 (up2 w 0 0 0) 0 0 0) p0 F M) a b p0 F i) a (b - 1) i F)), (4, .int (nI p0)), (0, .ref (ad 0)), (1, .int a), (2, .int b), (3, .int x)]) S.1 S.2.1 d_M_block_202 hl (k := 1) rfl (nI_1 i) (by decide) rfl (fun ls hl => ?_)
                                refine lv_goto (tgt := 115) S.1 S.2.1 d_M_block_205 (by decide) ?_
                                exact ih _ _ ls (by rw [mBu, if_neg (fun z => c_e (by have y := z.2; unfold mUn at y; rw [if_pos c_u] at y; exact y))]; exact hP) hS (lv_sub hl [0, 2, 3, 4, 5, 6] rfl)
                              · refine lv_aload_n S.1 S.2.1 d_M_block_193 rfl (lv_at hl 3 rfl) ?_
                                refine lv_iload S.1 S.2.1 d_M_block_194 (lv_at hl 2 rfl) ?_
                                refine lv_iload S.1 S.2.1 d_M_block_196 (lv_at hl 1 rfl) ?_
                                refine lv_iconst (v := (-1)) S.1 S.2.1 d_M_block_198 (by decide) ?_
                                refine uVv (n := 3) (b := 0) (As := [.int (nI p0), .int (nI i), .int (-1)]) (rest := []) S hK hN hP hS (c_M_put hJ (mBu (mNt (up2 (up2 w 0 0 0) 0 0 0) p0 F M) a b p0 F i) p0 i (by omega) (by omega) (-1)) ⟨hU, t4_79, t4_76, t1_8, by decide +kernel, by decide, by decide⟩ t4_78 tp_27 (by decide) mg_obj rfl rfl rfl hl.1 rfl (Nat.le_of_ble_eq_true rfl) d_M_block_199 ⟨Nat.le_of_ble_eq_true rfl, Nat.le_of_ble_eq_true rfl⟩ (fun u H locs hp hP hS => ?_)
                                rw [hp] at hP
                                refine lv_iinc (v := nI (i + 1)) (lv' := [(6, .int (nI (i + 1))), (7, .int (mTrk (mBu (mNt (up2 (up2 w 0 0 0) 0 0 0) p0 F M) a b p0 F i) a (b - 1) i F)), (4, .int (nI p0)), (0, .ref (ad 0)), (1, .int a), (2, .int b), (3, .int x)]) S.1 S.2.1 d_M_block_202 hl (k := 1) rfl (nI_1 i) (by decide) rfl (fun ls hl => ?_)
                                refine lv_goto (tgt := 115) S.1 S.2.1 d_M_block_205 (by decide) ?_
                                exact ih _ _ ls (by rw [mBu, if_pos ⟨c_o, by unfold mUn; rw [if_pos c_u]; exact c_e⟩]; exact hP) hS (lv_sub hl [0, 2, 3, 4, 5, 6] rfl)
                    exact L2 0 (Nat.zero_le _) _ _ ls hP hS (lv_sub hl [0, 2, 3, 4, 5, 6] rfl)
                  · refine lv_aload_n S.1 S.2.1 d_M_block_106 rfl (lv_at hl 3 rfl) ?_
                    refine lv_iload S.1 S.2.1 d_M_block_107 (lv_at hl 2 rfl) ?_
                    refine uVv (n := 1) (b := 0) (As := [.int (nI p0)]) (rest := []) S hK hN hP hS (c_M_noteO hJ (up2 (up2 w 0 0 0) 0 0 0) M hM F hF (some p0) (fun q h => by cases h; omega)) ⟨hU, t4_59, t4_56, t1_8, by decide +kernel, by decide, by decide⟩ t4_58 tp_22 (by decide) mg_obj rfl rfl rfl hl.1 rfl (Nat.le_of_ble_eq_true rfl) d_M_block_109 ⟨Nat.le_of_ble_eq_true rfl, Nat.le_of_ble_eq_true rfl⟩ (fun u H locs hp hP hS => ?_)
                    rw [hp] at hP
                    refine lv_iconst (v := 0) S.1 S.2.1 d_M_block_112 (by decide) ?_
                    refine lv_istore (lv' := [(6, .int 0), (5, .int (mBc (up2 w 0 0 0) a b p0 F M)), (4, .int (nI p0)), (0, .ref (ad 0)), (1, .int a), (2, .int b), (3, .int x)]) S.1 S.2.1 d_M_block_113 hl (by decide) rfl (fun ls hl => ?_)
                    have L2 : ∀ i, i ≤ M → ∀ (H : Heap) (locs : List Loc) (ls : Array Slot), va_P D clsAll (uw 22 ad (mG ca ad (mBb (mNt (up2 (up2 w 0 0 0) 0 0 0) p0 F M) p0 i))) H → va_S (uA 22 ad s.heap.size) s.heap H locs → lv_has ls 8 [(6, .int (nI i)), (4, .int (nI p0)), (0, .ref (ad 0)), (1, .int a), (2, .int b), (3, .int x)] → uGi 4 94 D clsAll 22 ad (mG ca ad) (fun r u => mBlP w a b x F M r u) [.ref (ad 0), .int a, .int b, .int x] p l e s m below meth c H locs 115 ls [] := by
                      refine upTo M ?_ ?_
                      · intro H locs ls hP hS hl
                        refine lv_iload S.1 S.2.1 d_M_block_115 (lv_at hl 0 rfl) ?_
                        refine lv_bipush (v := 64) S.1 S.2.1 d_M_block_117 (by decide) ?_
                        refine lv_icmp_ge (tgt := 208) S.1 S.2.1 d_M_block_119 (by decide) (fun c_h2 => ?_) (fun c_h2 => ?_)
                        · refine lv_aload_n S.1 S.2.1 d_M_block_208 rfl (lv_at hl 2 rfl) ?_
                          refine lv_iload S.1 S.2.1 d_M_block_209 (lv_at hl 1 rfl) ?_
                          refine uVi (n := 1) (b := 0) (As := [.int (nI p0)]) (rest := []) S hK hN hP hS (c_M_movesOf hJ (mBb (mNt (up2 (up2 w 0 0 0) 0 0 0) p0 F M) p0 M) M hM p0 (by omega)) ⟨hU, t4_51, t4_48, t1_8, by decide +kernel, by decide, by decide⟩ t4_50 tp_20 (by decide) mg_obj rfl rfl rfl hl.1 rfl (Nat.le_of_ble_eq_true rfl) d_M_block_211 ⟨Nat.le_of_ble_eq_true rfl, Nat.le_of_ble_eq_true rfl⟩ (fun r u H locs hp hP hS => ?_)
                          obtain ⟨hu, rfl⟩ := hp
                          rw [hu] at hP
                          exact uIret S hr hlk (mBb (mNt (up2 (up2 w 0 0 0) 0 0 0) p0 F M) p0 M) hP hS (by unfold mBlP; rw [if_neg c_has, hF0]; show ite _ _ _; rw [if_neg (fun z => z.2 c_600)]; unfold mBX; rw [if_neg c_z]; exact ⟨rfl, rfl⟩) d_M_block_214
                        · exact absurd (by subst hM; exact nI_le (Nat.le_refl 64) (by decide)) c_h2
                      · intro i hi ih H locs ls hP hS hl
                        refine lv_iload S.1 S.2.1 d_M_block_115 (lv_at hl 0 rfl) ?_
                        refine lv_bipush (v := 64) S.1 S.2.1 d_M_block_117 (by decide) ?_
                        refine lv_icmp_ge (tgt := 208) S.1 S.2.1 d_M_block_119 (by decide) (fun c_h2 => ?_) (fun c_h2 => ?_)
                        · exact absurd c_h2 (nI_ge (b := 64) (by omega) (by decide))
                        · refine lv_aload_n S.1 S.2.1 d_M_block_122 rfl (lv_at hl 2 rfl) ?_
                          refine lv_iload_n S.1 S.2.1 d_M_block_123 rfl (lv_at hl 3 rfl) ?_
                          refine lv_iload_n S.1 S.2.1 d_M_block_124 rfl (lv_at hl 4 rfl) ?_
                          refine lv_iconst (v := 1) S.1 S.2.1 d_M_block_125 (by decide) ?_
                          refine lv_isub S.1 S.2.1 d_M_block_126 ?_
                          refine lv_iload S.1 S.2.1 d_M_block_127 (lv_at hl 0 rfl) ?_
                          refine uVi (n := 3) (b := 0) (As := [.int a, .int (b - 1), .int (nI i)]) (rest := []) S hK hN hP hS (c_M_tracked hJ (mBb (mNt (up2 (up2 w 0 0 0) 0 0 0) p0 F M) p0 i) F hF a (b - 1) i (by omega)) ⟨hU, t4_63, t4_60, t1_8, by decide +kernel, by decide, by decide⟩ t4_62 tp_23 (by decide) mg_obj rfl rfl rfl hl.1 rfl (Nat.le_of_ble_eq_true rfl) d_M_block_129 ⟨Nat.le_of_ble_eq_true rfl, Nat.le_of_ble_eq_true rfl⟩ (fun r u H locs hp hP hS => ?_)
                          obtain ⟨hu, rfl⟩ := hp
                          rw [hu] at hP
                          refine lv_istore (lv' := [(7, .int (mTrk (mBb (mNt (up2 (up2 w 0 0 0) 0 0 0) p0 F M) p0 i) a (b - 1) i F)), (6, .int (nI i)), (4, .int (nI p0)), (0, .ref (ad 0)), (1, .int a), (2, .int b), (3, .int x)]) S.1 S.2.1 d_M_block_132 hl (by decide) rfl (fun ls hl => ?_)
                          refine lv_iload_n S.1 S.2.1 d_M_block_134 rfl (lv_at hl 6 rfl) ?_
                          refine lv_if_eq (tgt := 156) S.1 S.2.1 d_M_block_135 (by decide) (fun c_y => absurd c_y c_z) (fun c_y => ?_)
                          refine lv_aload_n S.1 S.2.1 d_M_block_138 rfl (lv_at hl 3 rfl) ?_
                          refine lv_iload S.1 S.2.1 d_M_block_139 (lv_at hl 2 rfl) ?_
                          refine lv_iload S.1 S.2.1 d_M_block_141 (lv_at hl 1 rfl) ?_
                          refine lv_aload_n S.1 S.2.1 d_M_block_143 rfl (lv_at hl 3 rfl) ?_
                          refine ur_get (k := 0) (v := .ref (ad 11)) S hK hP (by decide) mg_obj rfl (fun w h => hU w (in_M w h)) 11 (by decide) (hU _ t3_171) rfl d_M_block_144 ?_
                          refine lv_iload S.1 S.2.1 d_M_block_147 (lv_at hl 1 rfl) ?_
                          refine ur_sald (k := 11) (n := 64) (f := ((mBb (mNt (up2 (up2 w 0 0 0) 0 0 0) p0 F M) p0 i) 11)) (j := i) S hK hP (by decide) 4 (mg_arr 11 (by decide)) rfl rfl (by omega) (by decide) d_M_block_149 ?_
                          refine uVv (n := 3) (b := 0) (As := [.int (nI p0), .int (nI i), .int (((mBb (mNt (up2 (up2 w 0 0 0) 0 0 0) p0 F M) p0 i) 11) i)]) (rest := []) S hK hN hP hS (c_M_put hJ (mBb (mNt (up2 (up2 w 0 0 0) 0 0 0) p0 F M) p0 i) p0 i (by omega) (by omega) (((mBb (mNt (up2 (up2 w 0 0 0) 0 0 0) p0 F M) p0 i) 11) i)) ⟨hU, t4_79, t4_76, t1_8, by decide +kernel, by decide, by decide⟩ t4_78 tp_27 (by decide) mg_obj rfl rfl rfl hl.1 rfl (Nat.le_of_ble_eq_true rfl) d_M_block_150 ⟨Nat.le_of_ble_eq_true rfl, Nat.le_of_ble_eq_true rfl⟩ (fun u H locs hp hP hS => ?_)
                          rw [hp] at hP
                          refine lv_goto (tgt := 202) S.1 S.2.1 d_M_block_153 (by decide) ?_
                          refine lv_iinc (v := nI (i + 1)) (lv' := [(6, .int (nI (i + 1))), (7, .int (mTrk (mBb (mNt (up2 (up2 w 0 0 0) 0 0 0) p0 F M) p0 i) a (b - 1) i F)), (4, .int (nI p0)), (0, .ref (ad 0)), (1, .int a), (2, .int b), (3, .int x)]) S.1 S.2.1 d_M_block_202 hl (k := 1) rfl (nI_1 i) (by decide) rfl (fun ls hl => ?_)
                          refine lv_goto (tgt := 115) S.1 S.2.1 d_M_block_205 (by decide) ?_
                          exact ih _ _ ls (by rw [mBb]; exact hP) hS (lv_sub hl [0, 2, 3, 4, 5, 6] rfl)
                    exact L2 0 (Nat.zero_le _) _ _ ls hP hS (lv_sub hl [0, 2, 3, 4, 5, 6] rfl)
                · exact absurd (by decide) c_2
              · refine lv_iconst (v := 2) S.1 S.2.1 d_M_block_89 (by decide) ?_
                refine lv_goto (tgt := 94) S.1 S.2.1 d_M_block_90 (by decide) ?_
                refine ur_put (k := 0) (v := .int 2) (g' := mG ca ad (up2 (up2 w 0 0 0) 0 0 2)) S hK hP (uD _ hJ) hS (by decide) mg_obj rfl (fun w h => hU w (in_M w h)) ty_M tyk_M nm_M 0 (by decide) (hU _ t3_160) rfl rfl rfl (Nat.le_of_ble_eq_true rfl) ms_thr d_M_block_94 (fun H locs hP hS => ?_)
                refine lv_aload_n S.1 S.2.1 d_M_block_97 rfl (lv_at hl 3 rfl) ?_
                refine ur_get (k := 0) (v := .int ((up2 (up2 w 0 0 0) 0 0 2) 0 0)) S hK hP (by decide) mg_obj rfl (fun w h => hU w (in_M w h)) 0 (by decide) (hU _ t3_160) rfl d_M_block_98 ?_
                rw [up2_s]
                refine lv_if_le (tgt := 106) S.1 S.2.1 d_M_block_101 (by decide) (fun c_3 => ?_) (fun c_3 => ?_)
                · exact absurd c_3 (by decide)
                · refine lv_iconst (v := 0) S.1 S.2.1 d_M_block_104 (by decide) ?_
                  exact uIret S hr hlk (up2 (up2 w 0 0 0) 0 0 2) hP hS (by unfold mBlP; rw [if_neg c_has, hF0]; show ite _ _ _; rw [if_pos ⟨c_z0, c_600⟩]; exact ⟨rfl, rfl⟩) d_M_block_105
          · exact absurd (by subst hM; exact nI_le (Nat.le_refl 64) (by decide)) c_h1
        · intro i hi ih H locs ls hP hS hl
          refine lv_iload S.1 S.2.1 d_M_block_25 (lv_at hl 0 rfl) ?_
          refine lv_bipush (v := 64) S.1 S.2.1 d_M_block_27 (by decide) ?_
          refine lv_icmp_ge (tgt := 71) S.1 S.2.1 d_M_block_29 (by decide) (fun c_h1 => ?_) (fun c_h1 => ?_)
          · exact absurd c_h1 (nI_ge (b := 64) (by omega) (by decide))
          · refine lv_iload S.1 S.2.1 d_M_block_32 (lv_at hl 1 rfl) ?_
            refine lv_aload_n S.1 S.2.1 d_M_block_34 rfl (lv_at hl 3 rfl) ?_
            refine lv_iload_n S.1 S.2.1 d_M_block_35 rfl (lv_at hl 4 rfl) ?_
            refine lv_iload_n S.1 S.2.1 d_M_block_36 rfl (lv_at hl 5 rfl) ?_
            refine lv_iload S.1 S.2.1 d_M_block_37 (lv_at hl 0 rfl) ?_
            refine uVi (n := 3) (b := 0) (As := [.int a, .int b, .int (nI i)]) (rest := [.int (mBc (up2 w 0 0 0) a b p0 F i)]) S hK hN hP hS (c_M_sourceOf hJ (up2 w 0 0 0) F hF a b i (by omega)) ⟨hU, t4_67, t4_64, t1_8, by decide +kernel, by decide, by decide⟩ t4_66 tp_24 (by decide) mg_obj rfl rfl rfl hl.1 rfl (Nat.le_of_ble_eq_true rfl) d_M_block_39 ⟨Nat.le_of_ble_eq_true rfl, Nat.le_of_ble_eq_true rfl⟩ (fun r u H locs hp hP hS => ?_)
            obtain ⟨hu, rfl⟩ := hp
            rw [hu] at hP
            rcases hX_4 : mSrc (up2 w 0 0 0) a b i F with _ | p_5
            · refine lv_if_lt (tgt := 61) S.1 S.2.1 d_M_block_42 (by decide) (fun c_6 => ?_) (fun c_6 => ?_)
              · refine lv_iconst (v := 0) S.1 S.2.1 d_M_block_61 (by decide) ?_
                refine lv_iadd S.1 S.2.1 d_M_block_62 ?_
                refine lv_topi (fun x_7 ex_7 => ?_)
                refine lv_istore (lv' := [(5, .int x_7), (6, .int (nI i)), (4, .int (nI p0)), (0, .ref (ad 0)), (1, .int a), (2, .int b), (3, .int x)]) S.1 S.2.1 d_M_block_63 hl (by decide) rfl (fun ls hl => ?_)
                refine lv_iinc (v := nI (i + 1)) (lv' := [(6, .int (nI (i + 1))), (5, .int x_7), (4, .int (nI p0)), (0, .ref (ad 0)), (1, .int a), (2, .int b), (3, .int x)]) S.1 S.2.1 d_M_block_65 hl (k := 1) rfl (nI_1 i) (by decide) rfl (fun ls hl => ?_)
                refine lv_goto (tgt := 25) S.1 S.2.1 d_M_block_68 (by decide) ?_
                exact ih _ _ ls hP hS (by rw [show mBc (up2 w 0 0 0) a b p0 F (i + 1) = x_7 from by rw [ex_7, mBc, if_neg (fun z => z.1 hX_4)]]; exact lv_sub hl [0, 1, 2, 3, 4, 5, 6] rfl)
              · exact absurd (by decide) c_6
            · have hp_5 := mSrc_lt _ hX_4
              refine lv_if_lt (tgt := 61) S.1 S.2.1 d_M_block_42 (by decide) (fun c_8 => ?_) (fun c_8 => ?_)
              · exact absurd c_8 (nI_pos (by omega))
              · refine lv_aload_n S.1 S.2.1 d_M_block_45 rfl (lv_at hl 3 rfl) ?_
                refine lv_iload S.1 S.2.1 d_M_block_46 (lv_at hl 2 rfl) ?_
                refine lv_iload S.1 S.2.1 d_M_block_48 (lv_at hl 0 rfl) ?_
                refine uVi (n := 2) (b := 0) (As := [.int (nI p0), .int (nI i)]) (rest := [.int (mBc (up2 w 0 0 0) a b p0 F i)]) S hK hN hP hS (c_M_moveOf hJ (up2 w 0 0 0) p0 i (by omega) (by omega)) ⟨hU, t4_39, t4_36, t1_8, by decide +kernel, by decide, by decide⟩ t4_38 tp_17 (by decide) mg_obj rfl rfl rfl hl.1 rfl (Nat.le_of_ble_eq_true rfl) d_M_block_50 ⟨Nat.le_of_ble_eq_true rfl, Nat.le_of_ble_eq_true rfl⟩ (fun r u H locs hp hP hS => ?_)
                obtain ⟨hu, rfl⟩ := hp
                rw [hu] at hP
                refine lv_iconst (v := (-1)) S.1 S.2.1 d_M_block_53 (by decide) ?_
                refine lv_icmp_ne (tgt := 61) S.1 S.2.1 d_M_block_54 (by decide) (fun c_v => ?_) (fun c_v => ?_)
                · refine lv_iconst (v := 0) S.1 S.2.1 d_M_block_61 (by decide) ?_
                  refine lv_iadd S.1 S.2.1 d_M_block_62 ?_
                  refine lv_topi (fun x_9 ex_9 => ?_)
                  refine lv_istore (lv' := [(5, .int x_9), (6, .int (nI i)), (4, .int (nI p0)), (0, .ref (ad 0)), (1, .int a), (2, .int b), (3, .int x)]) S.1 S.2.1 d_M_block_63 hl (by decide) rfl (fun ls hl => ?_)
                  refine lv_iinc (v := nI (i + 1)) (lv' := [(6, .int (nI (i + 1))), (5, .int x_9), (4, .int (nI p0)), (0, .ref (ad 0)), (1, .int a), (2, .int b), (3, .int x)]) S.1 S.2.1 d_M_block_65 hl (k := 1) rfl (nI_1 i) (by decide) rfl (fun ls hl => ?_)
                  refine lv_goto (tgt := 25) S.1 S.2.1 d_M_block_68 (by decide) ?_
                  exact ih _ _ ls hP hS (by rw [show mBc (up2 w 0 0 0) a b p0 F (i + 1) = x_9 from by rw [ex_9, mBc, if_neg (fun z => c_v z.2)]]; exact lv_sub hl [0, 1, 2, 3, 4, 5, 6] rfl)
                · refine lv_iconst (v := 1) S.1 S.2.1 d_M_block_57 (by decide) ?_
                  refine lv_goto (tgt := 62) S.1 S.2.1 d_M_block_58 (by decide) ?_
                  refine lv_iadd S.1 S.2.1 d_M_block_62 ?_
                  refine lv_topi (fun x_10 ex_10 => ?_)
                  refine lv_istore (lv' := [(5, .int x_10), (6, .int (nI i)), (4, .int (nI p0)), (0, .ref (ad 0)), (1, .int a), (2, .int b), (3, .int x)]) S.1 S.2.1 d_M_block_63 hl (by decide) rfl (fun ls hl => ?_)
                  refine lv_iinc (v := nI (i + 1)) (lv' := [(6, .int (nI (i + 1))), (5, .int x_10), (4, .int (nI p0)), (0, .ref (ad 0)), (1, .int a), (2, .int b), (3, .int x)]) S.1 S.2.1 d_M_block_65 hl (k := 1) rfl (nI_1 i) (by decide) rfl (fun ls hl => ?_)
                  refine lv_goto (tgt := 25) S.1 S.2.1 d_M_block_68 (by decide) ?_
                  exact ih _ _ ls hP hS (by rw [show mBc (up2 w 0 0 0) a b p0 F (i + 1) = x_10 from by rw [ex_10, mBc, if_pos ⟨by rw [hX_4]; exact (fun z => nomatch z), c_v⟩]]; exact lv_sub hl [0, 1, 2, 3, 4, 5, 6] rfl)
      exact L 0 (Nat.zero_le _) _ _ ls hP hS (lv_sub hl [0, 1, 2, 3, 4, 5, 6] rfl)
  · have c_has := pI_no c_has
    rw [if_pos (Decidable.not_not.mp c_has)] at hP
    refine lv_iconst (v := 0) S.1 S.2.1 d_M_block_9 (by decide) ?_
    exact uIret S hr hlk (up2 w 0 0 1) hP hS (by unfold mBlP; rw [if_pos (Decidable.not_not.mp c_has)]; exact ⟨rfl, rfl⟩) d_M_block_10
