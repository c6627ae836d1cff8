/-! The model: count, cue (printed by wip/gen/gen_m7.py) -/
set_option maxRecDepth 100000 in
set_option maxHeartbeats 4000000 in
theorem c_M_count {l : Launch} {D : va_G} {ca : Nat → ClassId} {ad : Nat → Nat} (hJ : uJ 22 ad) (w : Nat → Nat → Int32) (M : Nat) (hM : M = 64) (F : Nat) (hF : F = 40) (x1 : Int32) : uMi l y_M_count b_M_count 4 (some .int) 3 67 D clsAll (tysAll ca) 22 ad (mG ca ad) w [.ref (ad 0), .int x1] (fun r u => u = up2 w 0 0 0 ∧ r = mCnt (up2 w 0 0 0) x1 F M) := by
  refine uStart (by decide) (Nat.le_of_ble_eq_true rfl) ?_
  intro p e s m below meth c ls S hr hlk hK hN hP hl
  have hU : ∀ w ∈ uWS, w ∈ (Cond.code y_M_count b_M_count 4 (some .int) :: uWS) := fun w h => List.mem_cons_of_mem _ h
  have hS : va_S (uA 22 ad s.heap.size) s.heap s.heap [] := va_S.rf
  have hl : lv_has ls 4 [(0, .ref (ad 0)), (1, .int x1)] := hl
  refine lv_aload_n S.1 S.2.1 d_M_count_0 rfl (lv_at hl 0 rfl) ?_
  refine lv_iconst (v := 0) S.1 S.2.1 d_M_count_1 (by decide) ?_
  refine ur_put (k := 0) (v := .int 0) (g' := mG ca ad (up2 w 0 0 0)) S hK hP (uD _ hJ) hS (by decide) mg_obj rfl (fun w h => hU w (in_M w h)) ty_M tyk_M nm_M 0 (by decide) (hU _ t3_160) rfl rfl rfl (Nat.le_of_ble_eq_true rfl) ms_thr d_M_count_2 (fun H locs hP hS => ?_)
  refine lv_iconst (v := 0) S.1 S.2.1 d_M_count_5 (by decide) ?_
  refine lv_istore_n (lv' := [(2, .int 0), (0, .ref (ad 0)), (1, .int x1)]) S.1 S.2.1 d_M_count_6 rfl hl (by decide) rfl (fun ls hl => ?_)
  refine lv_iconst (v := 0) S.1 S.2.1 d_M_count_7 (by decide) ?_
  refine lv_istore_n (lv' := [(3, .int 0), (2, .int 0), (0, .ref (ad 0)), (1, .int x1)]) S.1 S.2.1 d_M_count_8 rfl hl (by decide) rfl (fun ls hl => ?_)
  have L : ∀ i, i ≤ M → ∀ (H : Heap) (locs : List Loc) (ls : Array Slot), va_P D clsAll (uw 22 ad (mG ca ad (up2 w 0 0 0))) H → va_S (uA 22 ad s.heap.size) s.heap H locs → lv_has ls 4 [(3, .int (nI i)), (2, .int (mPc (up2 w 0 0 0) i)), (0, .ref (ad 0)), (1, .int x1)] → uGi 3 67 D clsAll 22 ad (mG ca ad) (fun r u => u = up2 w 0 0 0 ∧ r = mCnt (up2 w 0 0 0) x1 F M) [.ref (ad 0), .int x1] p l e s m below meth c H locs 9 ls [] := by
    refine upTo M ?_ ?_
    · intro H locs ls hP hS hl
      refine lv_iload_n S.1 S.2.1 d_M_count_9 rfl (lv_at hl 0 rfl) ?_
      refine lv_bipush (v := 64) S.1 S.2.1 d_M_count_10 (by decide) ?_
      refine lv_icmp_ge (tgt := 39) S.1 S.2.1 d_M_count_12 (by decide) (fun c_h => ?_) (fun c_h => ?_)
      · refine lv_iload_n S.1 S.2.1 d_M_count_39 rfl (lv_at hl 3 rfl) ?_
        rcases pk_ix x1 (n := 5) (by decide) with c_x | c_x | ⟨jx, hjx, e_x⟩
        · refine lv_tableOut (tgt := 98) S.1 S.2.1 d_M_count_40 (Or.inl (by rw [Int32.lt_iff_toInt_lt] at c_x; exact c_x)) (by decide) ?_
          refine lv_iconst (v := (-1)) S.1 S.2.1 d_M_count_98 (by decide) ?_
          exact uIret S hr hlk (up2 w 0 0 0) hP hS (by refine ⟨rfl, ?_⟩; unfold mCnt; rw [if_neg (fun h => by subst h; exact absurd c_x (by decide)), if_neg (fun h => by subst h; exact absurd c_x (by decide)), if_neg (fun h => by subst h; exact absurd c_x (by decide)), if_neg (fun h => by subst h; exact absurd c_x (by decide)), if_neg (fun h => by subst h; exact absurd c_x (by decide))]) d_M_count_99
        · refine lv_tableOut (tgt := 98) S.1 S.2.1 d_M_count_40 (Or.inr (by rw [Int32.le_iff_toInt_le, nI_toInt (by decide)] at c_x; omega)) (by decide) ?_
          refine lv_iconst (v := (-1)) S.1 S.2.1 d_M_count_98 (by decide) ?_
          exact uIret S hr hlk (up2 w 0 0 0) hP hS (by refine ⟨rfl, ?_⟩; unfold mCnt; rw [if_neg (fun h => by subst h; exact absurd c_x (by decide)), if_neg (fun h => by subst h; exact absurd c_x (by decide)), if_neg (fun h => by subst h; exact absurd c_x (by decide)), if_neg (fun h => by subst h; exact absurd c_x (by decide)), if_neg (fun h => by subst h; exact absurd c_x (by decide))]) d_M_count_99
        · subst e_x
          rcases (by omega : jx = 0 ∨ jx = 1 ∨ jx = 2 ∨ jx = 3 ∨ jx = 4) with rfl | rfl | rfl | rfl | rfl
          · refine lv_tableIn (off := 36) (tgt := 76) S.1 S.2.1 d_M_count_40 (by decide) (by decide) rfl (by decide) ?_
            refine lv_aload_n S.1 S.2.1 d_M_count_76 rfl (lv_at hl 2 rfl) ?_
            refine uVi (n := 0) (b := 0) (As := []) (rest := []) S hK hN hP hS (c_M_cueCount hJ (up2 w 0 0 0) F hF) ⟨hU, t4_43, t4_40, t1_8, by decide +kernel, by decide, by decide⟩ t4_42 tp_18 (by decide) mg_obj rfl rfl rfl hl.1 rfl (Nat.le_of_ble_eq_true rfl) d_M_count_77 ⟨Nat.le_of_ble_eq_true rfl, Nat.le_of_ble_eq_true rfl⟩ (fun r u H locs hp hP hS => ?_)
            obtain ⟨hu, rfl⟩ := hp
            rw [hu] at hP
            exact uIret S hr hlk (up2 w 0 0 0) hP hS (⟨rfl, rfl⟩) d_M_count_80
          · refine lv_tableIn (off := 41) (tgt := 81) S.1 S.2.1 d_M_count_40 (by decide) (by decide) rfl (by decide) ?_
            refine lv_aload_n S.1 S.2.1 d_M_count_81 rfl (lv_at hl 2 rfl) ?_
            refine uVi (n := 0) (b := 0) (As := []) (rest := []) S hK hN hP hS (c_M_moveCount hJ (up2 w 0 0 0) M hM F hF) ⟨hU, t4_47, t4_44, t1_8, by decide +kernel, by decide, by decide⟩ t4_46 tp_19 (by decide) mg_obj rfl rfl rfl hl.1 rfl (Nat.le_of_ble_eq_true rfl) d_M_count_82 ⟨Nat.le_of_ble_eq_true rfl, Nat.le_of_ble_eq_true rfl⟩ (fun r u H locs hp hP hS => ?_)
            obtain ⟨hu, rfl⟩ := hp
            rw [hu] at hP
            exact uIret S hr hlk (up2 w 0 0 0) hP hS (⟨rfl, rfl⟩) d_M_count_85
          · refine lv_tableIn (off := 46) (tgt := 86) S.1 S.2.1 d_M_count_40 (by decide) (by decide) rfl (by decide) ?_
            refine lv_iload_n S.1 S.2.1 d_M_count_86 rfl (lv_at hl 1 rfl) ?_
            exact uIret S hr hlk (up2 w 0 0 0) hP hS (⟨rfl, rfl⟩) d_M_count_87
          · refine lv_tableIn (off := 48) (tgt := 88) S.1 S.2.1 d_M_count_40 (by decide) (by decide) rfl (by decide) ?_
            refine lv_aload_n S.1 S.2.1 d_M_count_88 rfl (lv_at hl 2 rfl) ?_
            refine ur_get (k := 0) (v := .int ((up2 w 0 0 0) 22 0)) S hK hP (by decide) mg_obj rfl (fun w h => hU w (in_M w h)) 22 (by decide) (hU _ t3_182) rfl d_M_count_89 ?_
            exact uIret S hr hlk (up2 w 0 0 0) hP hS (⟨rfl, rfl⟩) d_M_count_92
          · refine lv_tableIn (off := 53) (tgt := 93) S.1 S.2.1 d_M_count_40 (by decide) (by decide) rfl (by decide) ?_
            refine lv_aload_n S.1 S.2.1 d_M_count_93 rfl (lv_at hl 2 rfl) ?_
            refine ur_get (k := 0) (v := .int ((up2 w 0 0 0) 23 0)) S hK hP (by decide) mg_obj rfl (fun w h => hU w (in_M w h)) 23 (by decide) (hU _ t3_183) rfl d_M_count_94 ?_
            exact uIret S hr hlk (up2 w 0 0 0) hP hS (⟨rfl, rfl⟩) d_M_count_97
      · exact absurd (by subst hM; exact nI_le (Nat.le_refl 64) (by decide)) c_h
    · intro i hi ih H locs ls hP hS hl
      refine lv_iload_n S.1 S.2.1 d_M_count_9 rfl (lv_at hl 0 rfl) ?_
      refine lv_bipush (v := 64) S.1 S.2.1 d_M_count_10 (by decide) ?_
      refine lv_icmp_ge (tgt := 39) S.1 S.2.1 d_M_count_12 (by decide) (fun c_h => ?_) (fun c_h => ?_)
      · exact absurd c_h (nI_ge (b := 64) (by omega) (by decide))
      · refine lv_iload_n S.1 S.2.1 d_M_count_15 rfl (lv_at hl 1 rfl) ?_
        refine lv_aload_n S.1 S.2.1 d_M_count_16 rfl (lv_at hl 2 rfl) ?_
        refine ur_get (k := 0) (v := .ref (ad 2)) S hK hP (by decide) mg_obj rfl (fun w h => hU w (in_M w h)) 2 (by decide) (hU _ t3_162) rfl d_M_count_17 ?_
        refine lv_iload_n S.1 S.2.1 d_M_count_20 rfl (lv_at hl 0 rfl) ?_
        refine ur_sald (k := 2) (n := 64) (f := ((up2 w 0 0 0) 2)) (j := i) S hK hP (by decide) 4 (mg_arr 2 (by decide)) rfl rfl (by omega) (by decide) d_M_count_21 ?_
        refine lv_iconst (v := (-1)) S.1 S.2.1 d_M_count_22 (by decide) ?_
        refine lv_icmp_eq (tgt := 30) S.1 S.2.1 d_M_count_23 (by decide) (fun c_v => ?_) (fun c_v => ?_)
        · refine lv_iconst (v := 0) S.1 S.2.1 d_M_count_30 (by decide) ?_
          refine lv_iadd S.1 S.2.1 d_M_count_31 ?_
          refine lv_topi (fun x_1 ex_1 => ?_)
          refine lv_istore_n (lv' := [(2, .int x_1), (3, .int (nI i)), (0, .ref (ad 0)), (1, .int x1)]) S.1 S.2.1 d_M_count_32 rfl hl (by decide) rfl (fun ls hl => ?_)
          refine lv_iinc (v := nI (i + 1)) (lv' := [(3, .int (nI (i + 1))), (2, .int x_1), (0, .ref (ad 0)), (1, .int x1)]) S.1 S.2.1 d_M_count_33 hl (k := 1) rfl (nI_1 i) (by decide) rfl (fun ls hl => ?_)
          refine lv_goto (tgt := 9) S.1 S.2.1 d_M_count_36 (by decide) ?_
          exact ih _ _ ls hP hS (by rw [show mPc (up2 w 0 0 0) (i + 1) = x_1 from by rw [ex_1, mPc, if_pos c_v]]; exact lv_sub hl [0, 1, 2, 3] rfl)
        · refine lv_iconst (v := 1) S.1 S.2.1 d_M_count_26 (by decide) ?_
          refine lv_goto (tgt := 31) S.1 S.2.1 d_M_count_27 (by decide) ?_
          refine lv_iadd S.1 S.2.1 d_M_count_31 ?_
          refine lv_topi (fun x_2 ex_2 => ?_)
          refine lv_istore_n (lv' := [(2, .int x_2), (3, .int (nI i)), (0, .ref (ad 0)), (1, .int x1)]) S.1 S.2.1 d_M_count_32 rfl hl (by decide) rfl (fun ls hl => ?_)
          refine lv_iinc (v := nI (i + 1)) (lv' := [(3, .int (nI (i + 1))), (2, .int x_2), (0, .ref (ad 0)), (1, .int x1)]) S.1 S.2.1 d_M_count_33 hl (k := 1) rfl (nI_1 i) (by decide) rfl (fun ls hl => ?_)
          refine lv_goto (tgt := 9) S.1 S.2.1 d_M_count_36 (by decide) ?_
          exact ih _ _ ls hP hS (by rw [show mPc (up2 w 0 0 0) (i + 1) = x_2 from by rw [ex_2, mPc, if_neg c_v]]; exact lv_sub hl [0, 1, 2, 3] rfl)
  exact L 0 (Nat.zero_le _) _ _ ls hP hS (lv_sub hl [0, 1, 2, 3] rfl)

set_option maxRecDepth 100000 in
set_option maxHeartbeats 4000000 in
theorem c_M_cue {l : Launch} {D : va_G} {ca : Nat → ClassId} {ad : Nat → Nat} (hJ : uJ 22 ad) (w : Nat → Nat → Int32) (M : Nat) (hM : M = 64) (F : Nat) (hF : F = 40) (a x2 x3 : Int32) (hcw : ∀ j : Nat, j < 2 ^ 31 → ¬ mCl w a F ≤ nI j → ∃ q, mCw (up2 w 0 0 0) a F j = some q) : uMi l y_M_cue b_M_cue 8 (some .int) 2 45 D clsAll (tysAll ca) 22 ad (mG ca ad) w [.ref (ad 0), .int a, .int x2, .int x3] (fun r u => mCuP w a x2 x3 F M r u) := by
  refine uStart (by decide) (Nat.le_of_ble_eq_true rfl) ?_
  intro p e s m below meth c ls S hr hlk hK hN hP hl
  have hU : ∀ w ∈ uWS, w ∈ (Cond.code y_M_cue b_M_cue 8 (some .int) :: uWS) := fun w h => List.mem_cons_of_mem _ h
  have hS : va_S (uA 22 ad s.heap.size) s.heap s.heap [] := va_S.rf
  have hl : lv_has ls 8 [(0, .ref (ad 0)), (1, .int a), (2, .int x2), (3, .int x3)] := hl
  refine lv_iconst (v := 0) S.1 S.2.1 d_M_cue_0 (by decide) ?_
  refine lv_istore (lv' := [(4, .int 0), (0, .ref (ad 0)), (1, .int a), (2, .int x2), (3, .int x3)]) S.1 S.2.1 d_M_cue_1 hl (by decide) rfl (fun ls hl => ?_)
  refine lv_iconst (v := 0) S.1 S.2.1 d_M_cue_3 (by decide) ?_
  refine lv_istore (lv' := [(5, .int 0), (4, .int 0), (0, .ref (ad 0)), (1, .int a), (2, .int x2), (3, .int x3)]) S.1 S.2.1 d_M_cue_4 hl (by decide) rfl (fun ls hl => ?_)
  have L : ∀ i, i ≤ F → ∀ (H : Heap) (locs : List Loc) (ls : Array Slot), va_P D clsAll (uw 22 ad (mG ca ad w)) H → va_S (uA 22 ad s.heap.size) s.heap H locs → lv_has ls 8 [(5, .int (nI i)), (4, .int (mCl w a i)), (0, .ref (ad 0)), (1, .int a), (2, .int x2), (3, .int x3)] → uGi 2 45 D clsAll 22 ad (mG ca ad) (fun r u => mCuP w a x2 x3 F M r u) [.ref (ad 0), .int a, .int x2, .int x3] p l e s m below meth c H locs 6 ls [] := by
    refine upTo F ?_ ?_
    · intro H locs ls hP hS hl
      refine lv_iload S.1 S.2.1 d_M_cue_6 (lv_at hl 0 rfl) ?_
      refine lv_bipush (v := 40) S.1 S.2.1 d_M_cue_8 (by decide) ?_
      refine lv_icmp_ge (tgt := 44) S.1 S.2.1 d_M_cue_10 (by decide) (fun c_h => ?_) (fun c_h => ?_)
      · refine lv_iload_n S.1 S.2.1 d_M_cue_44 rfl (lv_at hl 3 rfl) ?_
        refine lv_if_lt (tgt := 86) S.1 S.2.1 d_M_cue_45 (by decide) (fun c_a0 => ?_) (fun c_a0 => ?_)
        · refine lv_iconst (v := 0) S.1 S.2.1 d_M_cue_86 (by decide) ?_
          refine lv_istore (lv' := [(5, .int 0), (4, .int (mCl w a F)), (0, .ref (ad 0)), (1, .int a), (2, .int x2), (3, .int x3)]) S.1 S.2.1 d_M_cue_87 hl (by decide) rfl (fun ls hl => ?_)
          refine lv_aload_n S.1 S.2.1 d_M_cue_89 rfl (lv_at hl 2 rfl) ?_
          refine lv_iload S.1 S.2.1 d_M_cue_90 (lv_at hl 0 rfl) ?_
          refine lv_if_eq (tgt := 99) S.1 S.2.1 d_M_cue_92 (by decide) (fun c_1 => ?_) (fun c_1 => ?_)
          · refine lv_iconst (v := 1) S.1 S.2.1 d_M_cue_99 (by decide) ?_
            refine ur_put (k := 0) (v := .int 1) (g' := mG ca ad (up2 w 0 0 1)) S hK hP (uD _ hJ) hS (by decide) mg_obj rfl (fun w h => hU w (in_M w h)) ty_M tyk_M nm_M 0 (by decide) (hU _ t3_160) rfl rfl rfl (Nat.le_of_ble_eq_true rfl) ms_thr d_M_cue_100 (fun H locs hP hS => ?_)
            refine lv_iload S.1 S.2.1 d_M_cue_103 (lv_at hl 0 rfl) ?_
            refine lv_if_ne (tgt := 110) S.1 S.2.1 d_M_cue_105 (by decide) (fun c_2 => ?_) (fun c_2 => ?_)
            · exact absurd rfl c_2
            · refine lv_iconst (v := 0) S.1 S.2.1 d_M_cue_108 (by decide) ?_
              exact uIret S hr hlk (up2 w 0 0 1) hP hS (by unfold mCuP; rw [if_neg (fun z => z.1 c_a0)]; exact ⟨rfl, rfl⟩) d_M_cue_109
          · exact absurd (by decide) c_1
        · refine lv_iload_n S.1 S.2.1 d_M_cue_48 rfl (lv_at hl 3 rfl) ?_
          refine lv_iconst (v := 4) S.1 S.2.1 d_M_cue_49 (by decide) ?_
          refine lv_icmp_ge (tgt := 86) S.1 S.2.1 d_M_cue_50 (by decide) (fun c_a4 => ?_) (fun c_a4 => ?_)
          · refine lv_iconst (v := 0) S.1 S.2.1 d_M_cue_86 (by decide) ?_
            refine lv_istore (lv' := [(5, .int 0), (4, .int (mCl w a F)), (0, .ref (ad 0)), (1, .int a), (2, .int x2), (3, .int x3)]) S.1 S.2.1 d_M_cue_87 hl (by decide) rfl (fun ls hl => ?_)
            refine lv_aload_n S.1 S.2.1 d_M_cue_89 rfl (lv_at hl 2 rfl) ?_
            refine lv_iload S.1 S.2.1 d_M_cue_90 (lv_at hl 0 rfl) ?_
            refine lv_if_eq (tgt := 99) S.1 S.2.1 d_M_cue_92 (by decide) (fun c_3 => ?_) (fun c_3 => ?_)
            · refine lv_iconst (v := 1) S.1 S.2.1 d_M_cue_99 (by decide) ?_
              refine ur_put (k := 0) (v := .int 1) (g' := mG ca ad (up2 w 0 0 1)) S hK hP (uD _ hJ) hS (by decide) mg_obj rfl (fun w h => hU w (in_M w h)) ty_M tyk_M nm_M 0 (by decide) (hU _ t3_160) rfl rfl rfl (Nat.le_of_ble_eq_true rfl) ms_thr d_M_cue_100 (fun H locs hP hS => ?_)
              refine lv_iload S.1 S.2.1 d_M_cue_103 (lv_at hl 0 rfl) ?_
              refine lv_if_ne (tgt := 110) S.1 S.2.1 d_M_cue_105 (by decide) (fun c_4 => ?_) (fun c_4 => ?_)
              · exact absurd rfl c_4
              · refine lv_iconst (v := 0) S.1 S.2.1 d_M_cue_108 (by decide) ?_
                exact uIret S hr hlk (up2 w 0 0 1) hP hS (by unfold mCuP; rw [if_neg (fun z => z.2.1 c_a4)]; exact ⟨rfl, rfl⟩) d_M_cue_109
            · exact absurd (by decide) c_3
          · refine lv_iload_n S.1 S.2.1 d_M_cue_53 rfl (lv_at hl 4 rfl) ?_
            refine lv_iconst (v := (-1)) S.1 S.2.1 d_M_cue_54 (by decide) ?_
            refine lv_icmp_lt (tgt := 86) S.1 S.2.1 d_M_cue_55 (by decide) (fun c_i => ?_) (fun c_i => ?_)
            · refine lv_iconst (v := 0) S.1 S.2.1 d_M_cue_86 (by decide) ?_
              refine lv_istore (lv' := [(5, .int 0), (4, .int (mCl w a F)), (0, .ref (ad 0)), (1, .int a), (2, .int x2), (3, .int x3)]) S.1 S.2.1 d_M_cue_87 hl (by decide) rfl (fun ls hl => ?_)
              refine lv_aload_n S.1 S.2.1 d_M_cue_89 rfl (lv_at hl 2 rfl) ?_
              refine lv_iload S.1 S.2.1 d_M_cue_90 (lv_at hl 0 rfl) ?_
              refine lv_if_eq (tgt := 99) S.1 S.2.1 d_M_cue_92 (by decide) (fun c_5 => ?_) (fun c_5 => ?_)
              · refine lv_iconst (v := 1) S.1 S.2.1 d_M_cue_99 (by decide) ?_
                refine ur_put (k := 0) (v := .int 1) (g' := mG ca ad (up2 w 0 0 1)) S hK hP (uD _ hJ) hS (by decide) mg_obj rfl (fun w h => hU w (in_M w h)) ty_M tyk_M nm_M 0 (by decide) (hU _ t3_160) rfl rfl rfl (Nat.le_of_ble_eq_true rfl) ms_thr d_M_cue_100 (fun H locs hP hS => ?_)
                refine lv_iload S.1 S.2.1 d_M_cue_103 (lv_at hl 0 rfl) ?_
                refine lv_if_ne (tgt := 110) S.1 S.2.1 d_M_cue_105 (by decide) (fun c_6 => ?_) (fun c_6 => ?_)
                · exact absurd rfl c_6
                · refine lv_iconst (v := 0) S.1 S.2.1 d_M_cue_108 (by decide) ?_
                  exact uIret S hr hlk (up2 w 0 0 1) hP hS (by unfold mCuP; rw [if_neg (fun z => z.2.2.1 c_i)]; exact ⟨rfl, rfl⟩) d_M_cue_109
              · exact absurd (by decide) c_5
            · refine lv_iload_n S.1 S.2.1 d_M_cue_58 rfl (lv_at hl 4 rfl) ?_
              refine lv_iload S.1 S.2.1 d_M_cue_59 (lv_at hl 1 rfl) ?_
              refine lv_icmp_ge (tgt := 86) S.1 S.2.1 d_M_cue_61 (by decide) (fun c_n => ?_) (fun c_n => ?_)
              · refine lv_iconst (v := 0) S.1 S.2.1 d_M_cue_86 (by decide) ?_
                refine lv_istore (lv' := [(5, .int 0), (4, .int (mCl w a F)), (0, .ref (ad 0)), (1, .int a), (2, .int x2), (3, .int x3)]) S.1 S.2.1 d_M_cue_87 hl (by decide) rfl (fun ls hl => ?_)
                refine lv_aload_n S.1 S.2.1 d_M_cue_89 rfl (lv_at hl 2 rfl) ?_
                refine lv_iload S.1 S.2.1 d_M_cue_90 (lv_at hl 0 rfl) ?_
                refine lv_if_eq (tgt := 99) S.1 S.2.1 d_M_cue_92 (by decide) (fun c_7 => ?_) (fun c_7 => ?_)
                · refine lv_iconst (v := 1) S.1 S.2.1 d_M_cue_99 (by decide) ?_
                  refine ur_put (k := 0) (v := .int 1) (g' := mG ca ad (up2 w 0 0 1)) S hK hP (uD _ hJ) hS (by decide) mg_obj rfl (fun w h => hU w (in_M w h)) ty_M tyk_M nm_M 0 (by decide) (hU _ t3_160) rfl rfl rfl (Nat.le_of_ble_eq_true rfl) ms_thr d_M_cue_100 (fun H locs hP hS => ?_)
                  refine lv_iload S.1 S.2.1 d_M_cue_103 (lv_at hl 0 rfl) ?_
                  refine lv_if_ne (tgt := 110) S.1 S.2.1 d_M_cue_105 (by decide) (fun c_8 => ?_) (fun c_8 => ?_)
                  · exact absurd rfl c_8
                  · refine lv_iconst (v := 0) S.1 S.2.1 d_M_cue_108 (by decide) ?_
                    exact uIret S hr hlk (up2 w 0 0 1) hP hS (by unfold mCuP; rw [if_neg (fun z => z.2.2.2.1 c_n)]; exact ⟨rfl, rfl⟩) d_M_cue_109
                · exact absurd (by decide) c_7
              · refine lv_iload_n S.1 S.2.1 d_M_cue_64 rfl (lv_at hl 5 rfl) ?_
                refine lv_if_lt (tgt := 86) S.1 S.2.1 d_M_cue_65 (by decide) (fun c_w0 => ?_) (fun c_w0 => ?_)
                · refine lv_iconst (v := 0) S.1 S.2.1 d_M_cue_86 (by decide) ?_
                  refine lv_istore (lv' := [(5, .int 0), (4, .int (mCl w a F)), (0, .ref (ad 0)), (1, .int a), (2, .int x2), (3, .int x3)]) S.1 S.2.1 d_M_cue_87 hl (by decide) rfl (fun ls hl => ?_)
                  refine lv_aload_n S.1 S.2.1 d_M_cue_89 rfl (lv_at hl 2 rfl) ?_
                  refine lv_iload S.1 S.2.1 d_M_cue_90 (lv_at hl 0 rfl) ?_
                  refine lv_if_eq (tgt := 99) S.1 S.2.1 d_M_cue_92 (by decide) (fun c_9 => ?_) (fun c_9 => ?_)
                  · refine lv_iconst (v := 1) S.1 S.2.1 d_M_cue_99 (by decide) ?_
                    refine ur_put (k := 0) (v := .int 1) (g' := mG ca ad (up2 w 0 0 1)) S hK hP (uD _ hJ) hS (by decide) mg_obj rfl (fun w h => hU w (in_M w h)) ty_M tyk_M nm_M 0 (by decide) (hU _ t3_160) rfl rfl rfl (Nat.le_of_ble_eq_true rfl) ms_thr d_M_cue_100 (fun H locs hP hS => ?_)
                    refine lv_iload S.1 S.2.1 d_M_cue_103 (lv_at hl 0 rfl) ?_
                    refine lv_if_ne (tgt := 110) S.1 S.2.1 d_M_cue_105 (by decide) (fun c_10 => ?_) (fun c_10 => ?_)
                    · exact absurd rfl c_10
                    · refine lv_iconst (v := 0) S.1 S.2.1 d_M_cue_108 (by decide) ?_
                      exact uIret S hr hlk (up2 w 0 0 1) hP hS (by unfold mCuP; rw [if_neg (fun z => z.2.2.2.2.1 c_w0)]; exact ⟨rfl, rfl⟩) d_M_cue_109
                  · exact absurd (by decide) c_9
                · refine lv_iload_n S.1 S.2.1 d_M_cue_68 rfl (lv_at hl 5 rfl) ?_
                  refine lv_bipush (v := 6) S.1 S.2.1 d_M_cue_69 (by decide) ?_
                  refine lv_icmp_ge (tgt := 86) S.1 S.2.1 d_M_cue_71 (by decide) (fun c_w6 => ?_) (fun c_w6 => ?_)
                  · refine lv_iconst (v := 0) S.1 S.2.1 d_M_cue_86 (by decide) ?_
                    refine lv_istore (lv' := [(5, .int 0), (4, .int (mCl w a F)), (0, .ref (ad 0)), (1, .int a), (2, .int x2), (3, .int x3)]) S.1 S.2.1 d_M_cue_87 hl (by decide) rfl (fun ls hl => ?_)
                    refine lv_aload_n S.1 S.2.1 d_M_cue_89 rfl (lv_at hl 2 rfl) ?_
                    refine lv_iload S.1 S.2.1 d_M_cue_90 (lv_at hl 0 rfl) ?_
                    refine lv_if_eq (tgt := 99) S.1 S.2.1 d_M_cue_92 (by decide) (fun c_11 => ?_) (fun c_11 => ?_)
                    · refine lv_iconst (v := 1) S.1 S.2.1 d_M_cue_99 (by decide) ?_
                      refine ur_put (k := 0) (v := .int 1) (g' := mG ca ad (up2 w 0 0 1)) S hK hP (uD _ hJ) hS (by decide) mg_obj rfl (fun w h => hU w (in_M w h)) ty_M tyk_M nm_M 0 (by decide) (hU _ t3_160) rfl rfl rfl (Nat.le_of_ble_eq_true rfl) ms_thr d_M_cue_100 (fun H locs hP hS => ?_)
                      refine lv_iload S.1 S.2.1 d_M_cue_103 (lv_at hl 0 rfl) ?_
                      refine lv_if_ne (tgt := 110) S.1 S.2.1 d_M_cue_105 (by decide) (fun c_12 => ?_) (fun c_12 => ?_)
                      · exact absurd rfl c_12
                      · refine lv_iconst (v := 0) S.1 S.2.1 d_M_cue_108 (by decide) ?_
                        exact uIret S hr hlk (up2 w 0 0 1) hP hS (by unfold mCuP; rw [if_neg (fun z => z.2.2.2.2.2.1 c_w6)]; exact ⟨rfl, rfl⟩) d_M_cue_109
                    · exact absurd (by decide) c_11
                  · refine lv_iload_n S.1 S.2.1 d_M_cue_74 rfl (lv_at hl 4 rfl) ?_
                    refine lv_if_ge (tgt := 82) S.1 S.2.1 d_M_cue_75 (by decide) (fun c_p => ?_) (fun c_p => ?_)
                    · refine lv_iconst (v := 1) S.1 S.2.1 d_M_cue_82 (by decide) ?_
                      refine lv_goto (tgt := 87) S.1 S.2.1 d_M_cue_83 (by decide) ?_
                      refine lv_istore (lv' := [(5, .int 1), (4, .int (mCl w a F)), (0, .ref (ad 0)), (1, .int a), (2, .int x2), (3, .int x3)]) S.1 S.2.1 d_M_cue_87 hl (by decide) rfl (fun ls hl => ?_)
                      refine lv_aload_n S.1 S.2.1 d_M_cue_89 rfl (lv_at hl 2 rfl) ?_
                      refine lv_iload S.1 S.2.1 d_M_cue_90 (lv_at hl 0 rfl) ?_
                      refine lv_if_eq (tgt := 99) S.1 S.2.1 d_M_cue_92 (by decide) (fun c_13 => ?_) (fun c_13 => ?_)
                      · exact absurd c_13 (by decide)
                      · refine lv_iconst (v := 0) S.1 S.2.1 d_M_cue_95 (by decide) ?_
                        refine lv_goto (tgt := 100) S.1 S.2.1 d_M_cue_96 (by decide) ?_
                        refine ur_put (k := 0) (v := .int 0) (g' := mG ca ad (up2 w 0 0 0)) S hK hP (uD _ hJ) hS (by decide) mg_obj rfl (fun w h => hU w (in_M w h)) ty_M tyk_M nm_M 0 (by decide) (hU _ t3_160) rfl rfl rfl (Nat.le_of_ble_eq_true rfl) ms_thr d_M_cue_100 (fun H locs hP hS => ?_)
                        refine lv_iload S.1 S.2.1 d_M_cue_103 (lv_at hl 0 rfl) ?_
                        refine lv_if_ne (tgt := 110) S.1 S.2.1 d_M_cue_105 (by decide) (fun c_14 => ?_) (fun c_14 => ?_)
                        · refine lv_iload_n S.1 S.2.1 d_M_cue_110 rfl (lv_at hl 4 rfl) ?_
                          refine lv_iconst (v := (-1)) S.1 S.2.1 d_M_cue_111 (by decide) ?_
                          refine lv_icmp_ne (tgt := 118) S.1 S.2.1 d_M_cue_112 (by decide) (fun c_m => ?_) (fun c_m => ?_)
                          · obtain ⟨kj, hkj, ekj⟩ := nI_of (x := x2) (fun z => c_m (lt0_m1 c_i z))
                            obtain ⟨qk, hqk⟩ := hcw kj hkj (by rw [← ekj]; exact c_n)
                            have hqF := mCw_lt _ _ hqk
                            refine lv_aload_n S.1 S.2.1 d_M_cue_118 rfl (lv_at hl 2 rfl) ?_
                            refine lv_iload_n S.1 S.2.1 d_M_cue_119 rfl (lv_at hl 3 rfl) ?_
                            refine lv_iconst (v := 0) S.1 S.2.1 d_M_cue_120 (by decide) ?_
                            refine uVi (n := 2) (b := 0) (As := [.int a, .int 0]) (rest := []) S hK hN hP hS (c_M_above hJ (up2 w 0 0 0) F hF a 0) ⟨hU, t4_35, t4_32, t1_8, by decide +kernel, by decide, by decide⟩ t4_34 tp_16 (by decide) mg_obj rfl rfl rfl hl.1 rfl (Nat.le_of_ble_eq_true rfl) d_M_cue_121 ⟨Nat.le_of_ble_eq_true rfl, Nat.le_of_ble_eq_true rfl⟩ (fun r u H locs hp hP hS => ?_)
                            obtain ⟨hu, rfl⟩ := hp
                            rw [hu] at hP
                            refine lv_istore (lv' := [(6, .int (oI (mAbv (up2 w 0 0 0) a 0 F))), (5, .int 1), (4, .int (mCl w a F)), (0, .ref (ad 0)), (1, .int a), (2, .int x2), (3, .int x3)]) S.1 S.2.1 d_M_cue_124 hl (by decide) rfl (fun ls hl => ?_)
                            refine lv_iconst (v := 0) S.1 S.2.1 d_M_cue_126 (by decide) ?_
                            refine lv_istore (lv' := [(7, .int 0), (6, .int (oI (mAbv (up2 w 0 0 0) a 0 F))), (5, .int 1), (4, .int (mCl w a F)), (0, .ref (ad 0)), (1, .int a), (2, .int x2), (3, .int x3)]) S.1 S.2.1 d_M_cue_127 hl (by decide) rfl (fun ls hl => ?_)
                            have L2 : ∀ i, i ≤ kj → ∀ (H : Heap) (locs : List Loc) (ls : Array Slot), va_P D clsAll (uw 22 ad (mG ca ad (up2 w 0 0 0))) H → va_S (uA 22 ad s.heap.size) s.heap H locs → lv_has ls 8 [(7, .int (nI i)), (6, .int (oI (mCw (up2 w 0 0 0) a F i))), (0, .ref (ad 0)), (1, .int a), (2, .int x2), (3, .int x3)] → uGi 2 45 D clsAll 22 ad (mG ca ad) (fun r u => mCuP w a x2 x3 F M r u) [.ref (ad 0), .int a, .int x2, .int x3] p l e s m below meth c H locs 129 ls [] := by
                              refine upTo kj ?_ ?_
                              · intro H locs ls hP hS hl
                                refine lv_iload S.1 S.2.1 d_M_cue_129 (lv_at hl 0 rfl) ?_
                                refine lv_iload_n S.1 S.2.1 d_M_cue_131 rfl (lv_at hl 4 rfl) ?_
                                refine lv_icmp_ge (tgt := 155) S.1 S.2.1 d_M_cue_132 (by decide) (fun c_k => ?_) (fun c_k => ?_)
                                · refine lv_iload_n S.1 S.2.1 d_M_cue_155 rfl (lv_at hl 5 rfl) ?_
                                  refine lv_if_ne (tgt := 169) S.1 S.2.1 d_M_cue_156 (by decide) (fun c_d0 => ?_) (fun c_d0 => ?_)
                                  · refine lv_iload_n S.1 S.2.1 d_M_cue_169 rfl (lv_at hl 5 rfl) ?_
                                    refine lv_iconst (v := 1) S.1 S.2.1 d_M_cue_170 (by decide) ?_
                                    refine lv_icmp_ne (tgt := 183) S.1 S.2.1 d_M_cue_171 (by decide) (fun c_d1 => ?_) (fun c_d1 => ?_)
                                    · refine lv_iload_n S.1 S.2.1 d_M_cue_183 rfl (lv_at hl 5 rfl) ?_
                                      refine lv_iconst (v := 2) S.1 S.2.1 d_M_cue_184 (by decide) ?_
                                      refine lv_icmp_ne (tgt := 198) S.1 S.2.1 d_M_cue_185 (by decide) (fun c_d2 => ?_) (fun c_d2 => ?_)
                                      · refine lv_iload_n S.1 S.2.1 d_M_cue_198 rfl (lv_at hl 5 rfl) ?_
                                        refine lv_iconst (v := 3) S.1 S.2.1 d_M_cue_199 (by decide) ?_
                                        refine lv_icmp_ne (tgt := 213) S.1 S.2.1 d_M_cue_200 (by decide) (fun c_d3 => ?_) (fun c_d3 => ?_)
                                        · refine lv_iload_n S.1 S.2.1 d_M_cue_213 rfl (lv_at hl 5 rfl) ?_
                                          refine lv_iconst (v := 4) S.1 S.2.1 d_M_cue_214 (by decide) ?_
                                          refine lv_icmp_ne (tgt := 228) S.1 S.2.1 d_M_cue_215 (by decide) (fun c_d4 => ?_) (fun c_d4 => ?_)
                                          · refine lv_aload_n S.1 S.2.1 d_M_cue_228 rfl (lv_at hl 2 rfl) ?_
                                            refine ur_get (k := 0) (v := .ref (ad 9)) S hK hP (by decide) mg_obj rfl (fun w h => hU w (in_M w h)) 9 (by decide) (hU _ t3_169) rfl d_M_cue_229 ?_
                                            rw [show oI (mCw (up2 w 0 0 0) a F kj) = nI qk from by rw [hqk]; rfl] at hl
                                            refine lv_iload S.1 S.2.1 d_M_cue_232 (lv_at hl 1 rfl) ?_
                                            refine ur_iald (k := 9) (n := 40) (f := ((up2 w 0 0 0) 9)) (j := qk) S hK hP (by decide) 0 (mg_arr 9 (by decide)) rfl rfl (by omega) (by decide) d_M_cue_234 ?_
                                            exact uIret S hr hlk (up2 w 0 0 0) hP hS (by unfold mCuP; rw [if_pos ⟨c_a0, c_a4, c_i, c_n, c_w0, c_w6, Or.inl c_p⟩]; refine ⟨rfl, ?_⟩; rw [if_neg c_m, ekj, nI_clamp (by omega), hqk]; unfold mDet; first | (rw [if_neg c_d0, if_neg c_d1, if_neg c_d2, if_neg c_d3, if_neg c_d4]; rfl) | rfl) d_M_cue_235
                                          · refine lv_aload_n S.1 S.2.1 d_M_cue_218 rfl (lv_at hl 2 rfl) ?_
                                            refine ur_get (k := 0) (v := .ref (ad 8)) S hK hP (by decide) mg_obj rfl (fun w h => hU w (in_M w h)) 8 (by decide) (hU _ t3_168) rfl d_M_cue_219 ?_
                                            rw [show oI (mCw (up2 w 0 0 0) a F kj) = nI qk from by rw [hqk]; rfl] at hl
                                            refine lv_iload S.1 S.2.1 d_M_cue_222 (lv_at hl 1 rfl) ?_
                                            refine ur_iald (k := 8) (n := 40) (f := ((up2 w 0 0 0) 8)) (j := qk) S hK hP (by decide) 0 (mg_arr 8 (by decide)) rfl rfl (by omega) (by decide) d_M_cue_224 ?_
                                            refine lv_goto (tgt := 235) S.1 S.2.1 d_M_cue_225 (by decide) ?_
                                            exact uIret S hr hlk (up2 w 0 0 0) hP hS (by unfold mCuP; rw [if_pos ⟨c_a0, c_a4, c_i, c_n, c_w0, c_w6, Or.inl c_p⟩]; refine ⟨rfl, ?_⟩; rw [if_neg c_m, ekj, nI_clamp (by omega), hqk]; unfold mDet; first | (rw [if_neg c_d0, if_neg c_d1, if_neg c_d2, if_neg c_d3, if_pos c_d4]; rfl) | rfl) d_M_cue_235
                                        · refine lv_aload_n S.1 S.2.1 d_M_cue_203 rfl (lv_at hl 2 rfl) ?_
                                          refine ur_get (k := 0) (v := .ref (ad 7)) S hK hP (by decide) mg_obj rfl (fun w h => hU w (in_M w h)) 7 (by decide) (hU _ t3_167) rfl d_M_cue_204 ?_
                                          rw [show oI (mCw (up2 w 0 0 0) a F kj) = nI qk from by rw [hqk]; rfl] at hl
                                          refine lv_iload S.1 S.2.1 d_M_cue_207 (lv_at hl 1 rfl) ?_
                                          refine ur_iald (k := 7) (n := 40) (f := ((up2 w 0 0 0) 7)) (j := qk) S hK hP (by decide) 0 (mg_arr 7 (by decide)) rfl rfl (by omega) (by decide) d_M_cue_209 ?_
                                          refine lv_goto (tgt := 235) S.1 S.2.1 d_M_cue_210 (by decide) ?_
                                          exact uIret S hr hlk (up2 w 0 0 0) hP hS (by unfold mCuP; rw [if_pos ⟨c_a0, c_a4, c_i, c_n, c_w0, c_w6, Or.inl c_p⟩]; refine ⟨rfl, ?_⟩; rw [if_neg c_m, ekj, nI_clamp (by omega), hqk]; unfold mDet; first | (rw [if_neg c_d0, if_neg c_d1, if_neg c_d2, if_pos c_d3]; rfl) | rfl) d_M_cue_235
                                      · refine lv_aload_n S.1 S.2.1 d_M_cue_188 rfl (lv_at hl 2 rfl) ?_
                                        refine ur_get (k := 0) (v := .ref (ad 6)) S hK hP (by decide) mg_obj rfl (fun w h => hU w (in_M w h)) 6 (by decide) (hU _ t3_166) rfl d_M_cue_189 ?_
                                        rw [show oI (mCw (up2 w 0 0 0) a F kj) = nI qk from by rw [hqk]; rfl] at hl
                                        refine lv_iload S.1 S.2.1 d_M_cue_192 (lv_at hl 1 rfl) ?_
                                        refine ur_iald (k := 6) (n := 40) (f := ((up2 w 0 0 0) 6)) (j := qk) S hK hP (by decide) 0 (mg_arr 6 (by decide)) rfl rfl (by omega) (by decide) d_M_cue_194 ?_
                                        refine lv_goto (tgt := 235) S.1 S.2.1 d_M_cue_195 (by decide) ?_
                                        exact uIret S hr hlk (up2 w 0 0 0) hP hS (by unfold mCuP; rw [if_pos ⟨c_a0, c_a4, c_i, c_n, c_w0, c_w6, Or.inl c_p⟩]; refine ⟨rfl, ?_⟩; rw [if_neg c_m, ekj, nI_clamp (by omega), hqk]; unfold mDet; first | (rw [if_neg c_d0, if_neg c_d1, if_pos c_d2]; rfl) | rfl) d_M_cue_235
                                    · refine lv_aload_n S.1 S.2.1 d_M_cue_174 rfl (lv_at hl 2 rfl) ?_
                                      rw [show oI (mCw (up2 w 0 0 0) a F kj) = nI qk from by rw [hqk]; rfl] at hl
                                      refine lv_iload S.1 S.2.1 d_M_cue_175 (lv_at hl 1 rfl) ?_
                                      refine uVi (n := 1) (b := 0) (As := [.int (nI qk)]) (rest := []) S hK hN hP hS (c_M_movesOf hJ (up2 w 0 0 0) M hM qk (by omega)) ⟨hU, t4_51, t4_48, t1_8, by decide +kernel, by decide, by decide⟩ t4_50 tp_20 (by decide) mg_obj rfl rfl rfl hl.1 rfl (Nat.le_of_ble_eq_true rfl) d_M_cue_177 ⟨Nat.le_of_ble_eq_true rfl, Nat.le_of_ble_eq_true rfl⟩ (fun r u H locs hp hP hS => ?_)
                                      obtain ⟨hu, rfl⟩ := hp
                                      rw [hu] at hP
                                      refine lv_goto (tgt := 235) S.1 S.2.1 d_M_cue_180 (by decide) ?_
                                      exact uIret S hr hlk (up2 w 0 0 0) hP hS (by unfold mCuP; rw [if_pos ⟨c_a0, c_a4, c_i, c_n, c_w0, c_w6, Or.inl c_p⟩]; refine ⟨rfl, ?_⟩; rw [if_neg c_m, ekj, nI_clamp (by omega), hqk]; unfold mDet; first | (rw [if_neg c_d0, if_pos c_d1]; rfl) | rfl) d_M_cue_235
                                  · refine lv_aload_n S.1 S.2.1 d_M_cue_159 rfl (lv_at hl 2 rfl) ?_
                                    refine ur_get (k := 0) (v := .ref (ad 5)) S hK hP (by decide) mg_obj rfl (fun w h => hU w (in_M w h)) 5 (by decide) (hU _ t3_165) rfl d_M_cue_160 ?_
                                    rw [show oI (mCw (up2 w 0 0 0) a F kj) = nI qk from by rw [hqk]; rfl] at hl
                                    refine lv_iload S.1 S.2.1 d_M_cue_163 (lv_at hl 1 rfl) ?_
                                    refine ur_iald (k := 5) (n := 40) (f := ((up2 w 0 0 0) 5)) (j := qk) S hK hP (by decide) 0 (mg_arr 5 (by decide)) rfl rfl (by omega) (by decide) d_M_cue_165 ?_
                                    refine lv_goto (tgt := 235) S.1 S.2.1 d_M_cue_166 (by decide) ?_
                                    exact uIret S hr hlk (up2 w 0 0 0) hP hS (by unfold mCuP; rw [if_pos ⟨c_a0, c_a4, c_i, c_n, c_w0, c_w6, Or.inl c_p⟩]; refine ⟨rfl, ?_⟩; rw [if_neg c_m, ekj, nI_clamp (by omega), hqk]; unfold mDet; first | (rw [if_pos c_d0]; rfl) | rfl) d_M_cue_235
                                · exact absurd (by rw [ekj]; exact Int32.le_refl _) c_k
                              · intro i hi ih H locs ls hP hS hl
                                refine lv_iload S.1 S.2.1 d_M_cue_129 (lv_at hl 0 rfl) ?_
                                refine lv_iload_n S.1 S.2.1 d_M_cue_131 rfl (lv_at hl 4 rfl) ?_
                                refine lv_icmp_ge (tgt := 155) S.1 S.2.1 d_M_cue_132 (by decide) (fun c_k => ?_) (fun c_k => ?_)
                                · exact absurd c_k (by rw [ekj]; exact nI_ge hi (by omega))
                                · refine lv_aload_n S.1 S.2.1 d_M_cue_135 rfl (lv_at hl 2 rfl) ?_
                                  refine lv_iload_n S.1 S.2.1 d_M_cue_136 rfl (lv_at hl 3 rfl) ?_
                                  refine lv_aload_n S.1 S.2.1 d_M_cue_137 rfl (lv_at hl 2 rfl) ?_
                                  refine ur_get (k := 0) (v := .ref (ad 5)) S hK hP (by decide) mg_obj rfl (fun w h => hU w (in_M w h)) 5 (by decide) (hU _ t3_165) rfl d_M_cue_138 ?_
                                  obtain ⟨p_15, hX_16⟩ := hcw i (by omega) (fun z => c_n (by rw [ekj]; exact Int32.le_trans z (nI_le (by omega) (by omega))))
                                  have hp_15 := mCw_lt _ _ hX_16
                                  rw [hX_16] at hl
                                  refine lv_iload S.1 S.2.1 d_M_cue_141 (lv_at hl 1 rfl) ?_
                                  refine ur_iald (k := 5) (n := 40) (f := ((up2 w 0 0 0) 5)) (j := p_15) S hK hP (by decide) 0 (mg_arr 5 (by decide)) rfl rfl (by omega) (by decide) d_M_cue_143 ?_
                                  refine uVi (n := 2) (b := 0) (As := [.int a, .int (((up2 w 0 0 0) 5) p_15)]) (rest := []) S hK hN hP hS (c_M_above hJ (up2 w 0 0 0) F hF a (((up2 w 0 0 0) 5) p_15)) ⟨hU, t4_35, t4_32, t1_8, by decide +kernel, by decide, by decide⟩ t4_34 tp_16 (by decide) mg_obj rfl rfl rfl hl.1 rfl (Nat.le_of_ble_eq_true rfl) d_M_cue_144 ⟨Nat.le_of_ble_eq_true rfl, Nat.le_of_ble_eq_true rfl⟩ (fun r u H locs hp hP hS => ?_)
                                  obtain ⟨hu, rfl⟩ := hp
                                  rw [hu] at hP
                                  refine lv_istore (lv' := [(6, .int (oI (mAbv (up2 w 0 0 0) a (((up2 w 0 0 0) 5) p_15) F))), (7, .int (nI i)), (0, .ref (ad 0)), (1, .int a), (2, .int x2), (3, .int x3)]) S.1 S.2.1 d_M_cue_147 hl (by decide) rfl (fun ls hl => ?_)
                                  refine lv_iinc (v := nI (i + 1)) (lv' := [(7, .int (nI (i + 1))), (6, .int (oI (mAbv (up2 w 0 0 0) a (((up2 w 0 0 0) 5) p_15) F))), (0, .ref (ad 0)), (1, .int a), (2, .int x2), (3, .int x3)]) S.1 S.2.1 d_M_cue_149 hl (k := 1) rfl (nI_1 i) (by decide) rfl (fun ls hl => ?_)
                                  refine lv_goto (tgt := 129) S.1 S.2.1 d_M_cue_152 (by decide) ?_
                                  exact ih _ _ ls hP hS (by rw [show mCw (up2 w 0 0 0) a F (i + 1) = mAbv (up2 w 0 0 0) a (up2 w 0 0 0 5 p_15) F from by rw [mCw, hX_16]]; exact lv_sub hl [0, 1, 2, 3, 4, 5] rfl)
                            exact L2 0 (Nat.zero_le _) _ _ ls hP hS (lv_sub hl [0, 1, 4, 5, 6, 7] rfl)
                          · refine lv_iload S.1 S.2.1 d_M_cue_115 (lv_at hl 1 rfl) ?_
                            exact uIret S hr hlk (up2 w 0 0 0) hP hS (by unfold mCuP; rw [if_pos ⟨c_a0, c_a4, c_i, c_n, c_w0, c_w6, Or.inl c_p⟩]; refine ⟨rfl, ?_⟩; rw [if_pos c_m]) d_M_cue_117
                        · exact absurd c_14 (by decide)
                    · refine lv_iload_n S.1 S.2.1 d_M_cue_78 rfl (lv_at hl 5 rfl) ?_
                      refine lv_if_ne (tgt := 86) S.1 S.2.1 d_M_cue_79 (by decide) (fun c_w => ?_) (fun c_w => ?_)
                      · refine lv_iconst (v := 0) S.1 S.2.1 d_M_cue_86 (by decide) ?_
                        refine lv_istore (lv' := [(5, .int 0), (4, .int (mCl w a F)), (0, .ref (ad 0)), (1, .int a), (2, .int x2), (3, .int x3)]) S.1 S.2.1 d_M_cue_87 hl (by decide) rfl (fun ls hl => ?_)
                        refine lv_aload_n S.1 S.2.1 d_M_cue_89 rfl (lv_at hl 2 rfl) ?_
                        refine lv_iload S.1 S.2.1 d_M_cue_90 (lv_at hl 0 rfl) ?_
                        refine lv_if_eq (tgt := 99) S.1 S.2.1 d_M_cue_92 (by decide) (fun c_17 => ?_) (fun c_17 => ?_)
                        · refine lv_iconst (v := 1) S.1 S.2.1 d_M_cue_99 (by decide) ?_
                          refine ur_put (k := 0) (v := .int 1) (g' := mG ca ad (up2 w 0 0 1)) S hK hP (uD _ hJ) hS (by decide) mg_obj rfl (fun w h => hU w (in_M w h)) ty_M tyk_M nm_M 0 (by decide) (hU _ t3_160) rfl rfl rfl (Nat.le_of_ble_eq_true rfl) ms_thr d_M_cue_100 (fun H locs hP hS => ?_)
                          refine lv_iload S.1 S.2.1 d_M_cue_103 (lv_at hl 0 rfl) ?_
                          refine lv_if_ne (tgt := 110) S.1 S.2.1 d_M_cue_105 (by decide) (fun c_18 => ?_) (fun c_18 => ?_)
                          · exact absurd rfl c_18
                          · refine lv_iconst (v := 0) S.1 S.2.1 d_M_cue_108 (by decide) ?_
                            exact uIret S hr hlk (up2 w 0 0 1) hP hS (by unfold mCuP; rw [if_neg (fun z => z.2.2.2.2.2.2.elim c_p c_w)]; exact ⟨rfl, rfl⟩) d_M_cue_109
                        · exact absurd (by decide) c_17
                      · refine lv_iconst (v := 1) S.1 S.2.1 d_M_cue_82 (by decide) ?_
                        refine lv_goto (tgt := 87) S.1 S.2.1 d_M_cue_83 (by decide) ?_
                        refine lv_istore (lv' := [(5, .int 1), (4, .int (mCl w a F)), (0, .ref (ad 0)), (1, .int a), (2, .int x2), (3, .int x3)]) S.1 S.2.1 d_M_cue_87 hl (by decide) rfl (fun ls hl => ?_)
                        refine lv_aload_n S.1 S.2.1 d_M_cue_89 rfl (lv_at hl 2 rfl) ?_
                        refine lv_iload S.1 S.2.1 d_M_cue_90 (lv_at hl 0 rfl) ?_
                        refine lv_if_eq (tgt := 99) S.1 S.2.1 d_M_cue_92 (by decide) (fun c_19 => ?_) (fun c_19 => ?_)
                        · exact absurd c_19 (by decide)
                        · refine lv_iconst (v := 0) S.1 S.2.1 d_M_cue_95 (by decide) ?_
                          refine lv_goto (tgt := 100) S.1 S.2.1 d_M_cue_96 (by decide) ?_
                          refine ur_put (k := 0) (v := .int 0) (g' := mG ca ad (up2 w 0 0 0)) S hK hP (uD _ hJ) hS (by decide) mg_obj rfl (fun w h => hU w (in_M w h)) ty_M tyk_M nm_M 0 (by decide) (hU _ t3_160) rfl rfl rfl (Nat.le_of_ble_eq_true rfl) ms_thr d_M_cue_100 (fun H locs hP hS => ?_)
                          refine lv_iload S.1 S.2.1 d_M_cue_103 (lv_at hl 0 rfl) ?_
                          refine lv_if_ne (tgt := 110) S.1 S.2.1 d_M_cue_105 (by decide) (fun c_20 => ?_) (fun c_20 => ?_)
                          · refine lv_iload_n S.1 S.2.1 d_M_cue_110 rfl (lv_at hl 4 rfl) ?_
                            refine lv_iconst (v := (-1)) S.1 S.2.1 d_M_cue_111 (by decide) ?_
                            refine lv_icmp_ne (tgt := 118) S.1 S.2.1 d_M_cue_112 (by decide) (fun c_m => ?_) (fun c_m => ?_)
                            · obtain ⟨kj, hkj, ekj⟩ := nI_of (x := x2) (fun z => c_m (lt0_m1 c_i z))
                              obtain ⟨qk, hqk⟩ := hcw kj hkj (by rw [← ekj]; exact c_n)
                              have hqF := mCw_lt _ _ hqk
                              refine lv_aload_n S.1 S.2.1 d_M_cue_118 rfl (lv_at hl 2 rfl) ?_
                              refine lv_iload_n S.1 S.2.1 d_M_cue_119 rfl (lv_at hl 3 rfl) ?_
                              refine lv_iconst (v := 0) S.1 S.2.1 d_M_cue_120 (by decide) ?_
                              refine uVi (n := 2) (b := 0) (As := [.int a, .int 0]) (rest := []) S hK hN hP hS (c_M_above hJ (up2 w 0 0 0) F hF a 0) ⟨hU, t4_35, t4_32, t1_8, by decide +kernel, by decide, by decide⟩ t4_34 tp_16 (by decide) mg_obj rfl rfl rfl hl.1 rfl (Nat.le_of_ble_eq_true rfl) d_M_cue_121 ⟨Nat.le_of_ble_eq_true rfl, Nat.le_of_ble_eq_true rfl⟩ (fun r u H locs hp hP hS => ?_)
                              obtain ⟨hu, rfl⟩ := hp
                              rw [hu] at hP
                              refine lv_istore (lv' := [(6, .int (oI (mAbv (up2 w 0 0 0) a 0 F))), (5, .int 1), (4, .int (mCl w a F)), (0, .ref (ad 0)), (1, .int a), (2, .int x2), (3, .int x3)]) S.1 S.2.1 d_M_cue_124 hl (by decide) rfl (fun ls hl => ?_)
                              refine lv_iconst (v := 0) S.1 S.2.1 d_M_cue_126 (by decide) ?_
                              refine lv_istore (lv' := [(7, .int 0), (6, .int (oI (mAbv (up2 w 0 0 0) a 0 F))), (5, .int 1), (4, .int (mCl w a F)), (0, .ref (ad 0)), (1, .int a), (2, .int x2), (3, .int x3)]) S.1 S.2.1 d_M_cue_127 hl (by decide) rfl (fun ls hl => ?_)
                              have L2 : ∀ i, i ≤ kj → ∀ (H : Heap) (locs : List Loc) (ls : Array Slot), va_P D clsAll (uw 22 ad (mG ca ad (up2 w 0 0 0))) H → va_S (uA 22 ad s.heap.size) s.heap H locs → lv_has ls 8 [(7, .int (nI i)), (6, .int (oI (mCw (up2 w 0 0 0) a F i))), (0, .ref (ad 0)), (1, .int a), (2, .int x2), (3, .int x3)] → uGi 2 45 D clsAll 22 ad (mG ca ad) (fun r u => mCuP w a x2 x3 F M r u) [.ref (ad 0), .int a, .int x2, .int x3] p l e s m below meth c H locs 129 ls [] := by
                                refine upTo kj ?_ ?_
                                · intro H locs ls hP hS hl
                                  refine lv_iload S.1 S.2.1 d_M_cue_129 (lv_at hl 0 rfl) ?_
                                  refine lv_iload_n S.1 S.2.1 d_M_cue_131 rfl (lv_at hl 4 rfl) ?_
                                  refine lv_icmp_ge (tgt := 155) S.1 S.2.1 d_M_cue_132 (by decide) (fun c_k => ?_) (fun c_k => ?_)
                                  · refine lv_iload_n S.1 S.2.1 d_M_cue_155 rfl (lv_at hl 5 rfl) ?_
                                    refine lv_if_ne (tgt := 169) S.1 S.2.1 d_M_cue_156 (by decide) (fun c_d0 => ?_) (fun c_d0 => ?_)
                                    · refine lv_iload_n S.1 S.2.1 d_M_cue_169 rfl (lv_at hl 5 rfl) ?_
                                      refine lv_iconst (v := 1) S.1 S.2.1 d_M_cue_170 (by decide) ?_
                                      refine lv_icmp_ne (tgt := 183) S.1 S.2.1 d_M_cue_171 (by decide) (fun c_d1 => ?_) (fun c_d1 => ?_)
                                      · refine lv_iload_n S.1 S.2.1 d_M_cue_183 rfl (lv_at hl 5 rfl) ?_
                                        refine lv_iconst (v := 2) S.1 S.2.1 d_M_cue_184 (by decide) ?_
                                        refine lv_icmp_ne (tgt := 198) S.1 S.2.1 d_M_cue_185 (by decide) (fun c_d2 => ?_) (fun c_d2 => ?_)
                                        · refine lv_iload_n S.1 S.2.1 d_M_cue_198 rfl (lv_at hl 5 rfl) ?_
                                          refine lv_iconst (v := 3) S.1 S.2.1 d_M_cue_199 (by decide) ?_
                                          refine lv_icmp_ne (tgt := 213) S.1 S.2.1 d_M_cue_200 (by decide) (fun c_d3 => ?_) (fun c_d3 => ?_)
                                          · refine lv_iload_n S.1 S.2.1 d_M_cue_213 rfl (lv_at hl 5 rfl) ?_
                                            refine lv_iconst (v := 4) S.1 S.2.1 d_M_cue_214 (by decide) ?_
                                            refine lv_icmp_ne (tgt := 228) S.1 S.2.1 d_M_cue_215 (by decide) (fun c_d4 => ?_) (fun c_d4 => ?_)
                                            · refine lv_aload_n S.1 S.2.1 d_M_cue_228 rfl (lv_at hl 2 rfl) ?_
                                              refine ur_get (k := 0) (v := .ref (ad 9)) S hK hP (by decide) mg_obj rfl (fun w h => hU w (in_M w h)) 9 (by decide) (hU _ t3_169) rfl d_M_cue_229 ?_
                                              rw [show oI (mCw (up2 w 0 0 0) a F kj) = nI qk from by rw [hqk]; rfl] at hl
                                              refine lv_iload S.1 S.2.1 d_M_cue_232 (lv_at hl 1 rfl) ?_
                                              refine ur_iald (k := 9) (n := 40) (f := ((up2 w 0 0 0) 9)) (j := qk) S hK hP (by decide) 0 (mg_arr 9 (by decide)) rfl rfl (by omega) (by decide) d_M_cue_234 ?_
                                              exact uIret S hr hlk (up2 w 0 0 0) hP hS (by unfold mCuP; rw [if_pos ⟨c_a0, c_a4, c_i, c_n, c_w0, c_w6, Or.inr c_w⟩]; refine ⟨rfl, ?_⟩; rw [if_neg c_m, ekj, nI_clamp (by omega), hqk]; unfold mDet; first | (rw [if_neg c_d0, if_neg c_d1, if_neg c_d2, if_neg c_d3, if_neg c_d4]; rfl) | rfl) d_M_cue_235
                                            · refine lv_aload_n S.1 S.2.1 d_M_cue_218 rfl (lv_at hl 2 rfl) ?_
                                              refine ur_get (k := 0) (v := .ref (ad 8)) S hK hP (by decide) mg_obj rfl (fun w h => hU w (in_M w h)) 8 (by decide) (hU _ t3_168) rfl d_M_cue_219 ?_
                                              rw [show oI (mCw (up2 w 0 0 0) a F kj) = nI qk from by rw [hqk]; rfl] at hl
                                              refine lv_iload S.1 S.2.1 d_M_cue_222 (lv_at hl 1 rfl) ?_
                                              refine ur_iald (k := 8) (n := 40) (f := ((up2 w 0 0 0) 8)) (j := qk) S hK hP (by decide) 0 (mg_arr 8 (by decide)) rfl rfl (by omega) (by decide) d_M_cue_224 ?_
                                              refine lv_goto (tgt := 235) S.1 S.2.1 d_M_cue_225 (by decide) ?_
                                              exact uIret S hr hlk (up2 w 0 0 0) hP hS (by unfold mCuP; rw [if_pos ⟨c_a0, c_a4, c_i, c_n, c_w0, c_w6, Or.inr c_w⟩]; refine ⟨rfl, ?_⟩; rw [if_neg c_m, ekj, nI_clamp (by omega), hqk]; unfold mDet; first | (rw [if_neg c_d0, if_neg c_d1, if_neg c_d2, if_neg c_d3, if_pos c_d4]; rfl) | rfl) d_M_cue_235
                                          · refine lv_aload_n S.1 S.2.1 d_M_cue_203 rfl (lv_at hl 2 rfl) ?_
                                            refine ur_get (k := 0) (v := .ref (ad 7)) S hK hP (by decide) mg_obj rfl (fun w h => hU w (in_M w h)) 7 (by decide) (hU _ t3_167) rfl d_M_cue_204 ?_
                                            rw [show oI (mCw (up2 w 0 0 0) a F kj) = nI qk from by rw [hqk]; rfl] at hl
                                            refine lv_iload S.1 S.2.1 d_M_cue_207 (lv_at hl 1 rfl) ?_
                                            refine ur_iald (k := 7) (n := 40) (f := ((up2 w 0 0 0) 7)) (j := qk) S hK hP (by decide) 0 (mg_arr 7 (by decide)) rfl rfl (by omega) (by decide) d_M_cue_209 ?_
                                            refine lv_goto (tgt := 235) S.1 S.2.1 d_M_cue_210 (by decide) ?_
                                            exact uIret S hr hlk (up2 w 0 0 0) hP hS (by unfold mCuP; rw [if_pos ⟨c_a0, c_a4, c_i, c_n, c_w0, c_w6, Or.inr c_w⟩]; refine ⟨rfl, ?_⟩; rw [if_neg c_m, ekj, nI_clamp (by omega), hqk]; unfold mDet; first | (rw [if_neg c_d0, if_neg c_d1, if_neg c_d2, if_pos c_d3]; rfl) | rfl) d_M_cue_235
                                        · refine lv_aload_n S.1 S.2.1 d_M_cue_188 rfl (lv_at hl 2 rfl) ?_
                                          refine ur_get (k := 0) (v := .ref (ad 6)) S hK hP (by decide) mg_obj rfl (fun w h => hU w (in_M w h)) 6 (by decide) (hU _ t3_166) rfl d_M_cue_189 ?_
                                          rw [show oI (mCw (up2 w 0 0 0) a F kj) = nI qk from by rw [hqk]; rfl] at hl
                                          refine lv_iload S.1 S.2.1 d_M_cue_192 (lv_at hl 1 rfl) ?_
                                          refine ur_iald (k := 6) (n := 40) (f := ((up2 w 0 0 0) 6)) (j := qk) S hK hP (by decide) 0 (mg_arr 6 (by decide)) rfl rfl (by omega) (by decide) d_M_cue_194 ?_
                                          refine lv_goto (tgt := 235) S.1 S.2.1 d_M_cue_195 (by decide) ?_
                                          exact uIret S hr hlk (up2 w 0 0 0) hP hS (by unfold mCuP; rw [if_pos ⟨c_a0, c_a4, c_i, c_n, c_w0, c_w6, Or.inr c_w⟩]; refine ⟨rfl, ?_⟩; rw [if_neg c_m, ekj, nI_clamp (by omega), hqk]; unfold mDet; first | (rw [if_neg c_d0, if_neg c_d1, if_pos c_d2]; rfl) | rfl) d_M_cue_235
                                      · refine lv_aload_n S.1 S.2.1 d_M_cue_174 rfl (lv_at hl 2 rfl) ?_
                                        rw [show oI (mCw (up2 w 0 0 0) a F kj) = nI qk from by rw [hqk]; rfl] at hl
                                        refine lv_iload S.1 S.2.1 d_M_cue_175 (lv_at hl 1 rfl) ?_
                                        refine uVi (n := 1) (b := 0) (As := [.int (nI qk)]) (rest := []) S hK hN hP hS (c_M_movesOf hJ (up2 w 0 0 0) M hM qk (by omega)) ⟨hU, t4_51, t4_48, t1_8, by decide +kernel, by decide, by decide⟩ t4_50 tp_20 (by decide) mg_obj rfl rfl rfl hl.1 rfl (Nat.le_of_ble_eq_true rfl) d_M_cue_177 ⟨Nat.le_of_ble_eq_true rfl, Nat.le_of_ble_eq_true rfl⟩ (fun r u H locs hp hP hS => ?_)
                                        obtain ⟨hu, rfl⟩ := hp
                                        rw [hu] at hP
                                        refine lv_goto (tgt := 235) S.1 S.2.1 d_M_cue_180 (by decide) ?_
                                        exact uIret S hr hlk (up2 w 0 0 0) hP hS (by unfold mCuP; rw [if_pos ⟨c_a0, c_a4, c_i, c_n, c_w0, c_w6, Or.inr c_w⟩]; refine ⟨rfl, ?_⟩; rw [if_neg c_m, ekj, nI_clamp (by omega), hqk]; unfold mDet; first | (rw [if_neg c_d0, if_pos c_d1]; rfl) | rfl) d_M_cue_235
                                    · refine lv_aload_n S.1 S.2.1 d_M_cue_159 rfl (lv_at hl 2 rfl) ?_
                                      refine ur_get (k := 0) (v := .ref (ad 5)) S hK hP (by decide) mg_obj rfl (fun w h => hU w (in_M w h)) 5 (by decide) (hU _ t3_165) rfl d_M_cue_160 ?_
                                      rw [show oI (mCw (up2 w 0 0 0) a F kj) = nI qk from by rw [hqk]; rfl] at hl
                                      refine lv_iload S.1 S.2.1 d_M_cue_163 (lv_at hl 1 rfl) ?_
                                      refine ur_iald (k := 5) (n := 40) (f := ((up2 w 0 0 0) 5)) (j := qk) S hK hP (by decide) 0 (mg_arr 5 (by decide)) rfl rfl (by omega) (by decide) d_M_cue_165 ?_
                                      refine lv_goto (tgt := 235) S.1 S.2.1 d_M_cue_166 (by decide) ?_
                                      exact uIret S hr hlk (up2 w 0 0 0) hP hS (by unfold mCuP; rw [if_pos ⟨c_a0, c_a4, c_i, c_n, c_w0, c_w6, Or.inr c_w⟩]; refine ⟨rfl, ?_⟩; rw [if_neg c_m, ekj, nI_clamp (by omega), hqk]; unfold mDet; first | (rw [if_pos c_d0]; rfl) | rfl) d_M_cue_235
                                  · exact absurd (by rw [ekj]; exact Int32.le_refl _) c_k
                                · intro i hi ih H locs ls hP hS hl
                                  refine lv_iload S.1 S.2.1 d_M_cue_129 (lv_at hl 0 rfl) ?_
                                  refine lv_iload_n S.1 S.2.1 d_M_cue_131 rfl (lv_at hl 4 rfl) ?_
                                  refine lv_icmp_ge (tgt := 155) S.1 S.2.1 d_M_cue_132 (by decide) (fun c_k => ?_) (fun c_k => ?_)
                                  · exact absurd c_k (by rw [ekj]; exact nI_ge hi (by omega))
                                  · refine lv_aload_n S.1 S.2.1 d_M_cue_135 rfl (lv_at hl 2 rfl) ?_
                                    refine lv_iload_n S.1 S.2.1 d_M_cue_136 rfl (lv_at hl 3 rfl) ?_
                                    refine lv_aload_n S.1 S.2.1 d_M_cue_137 rfl (lv_at hl 2 rfl) ?_
                                    refine ur_get (k := 0) (v := .ref (ad 5)) S hK hP (by decide) mg_obj rfl (fun w h => hU w (in_M w h)) 5 (by decide) (hU _ t3_165) rfl d_M_cue_138 ?_
                                    obtain ⟨p_21, hX_22⟩ := hcw i (by omega) (fun z => c_n (by rw [ekj]; exact Int32.le_trans z (nI_le (by omega) (by omega))))
                                    have hp_21 := mCw_lt _ _ hX_22
                                    rw [hX_22] at hl
                                    refine lv_iload S.1 S.2.1 d_M_cue_141 (lv_at hl 1 rfl) ?_
                                    refine ur_iald (k := 5) (n := 40) (f := ((up2 w 0 0 0) 5)) (j := p_21) S hK hP (by decide) 0 (mg_arr 5 (by decide)) rfl rfl (by omega) (by decide) d_M_cue_143 ?_
                                    refine uVi (n := 2) (b := 0) (As := [.int a, .int (((up2 w 0 0 0) 5) p_21)]) (rest := []) S hK hN hP hS (c_M_above hJ (up2 w 0 0 0) F hF a (((up2 w 0 0 0) 5) p_21)) ⟨hU, t4_35, t4_32, t1_8, by decide +kernel, by decide, by decide⟩ t4_34 tp_16 (by decide) mg_obj rfl rfl rfl hl.1 rfl (Nat.le_of_ble_eq_true rfl) d_M_cue_144 ⟨Nat.le_of_ble_eq_true rfl, Nat.le_of_ble_eq_true rfl⟩ (fun r u H locs hp hP hS => ?_)
                                    obtain ⟨hu, rfl⟩ := hp
                                    rw [hu] at hP
                                    refine lv_istore (lv' := [(6, .int (oI (mAbv (up2 w 0 0 0) a (((up2 w 0 0 0) 5) p_21) F))), (7, .int (nI i)), (0, .ref (ad 0)), (1, .int a), (2, .int x2), (3, .int x3)]) S.1 S.2.1 d_M_cue_147 hl (by decide) rfl (fun ls hl => ?_)
                                    refine lv_iinc (v := nI (i + 1)) (lv' := [(7, .int (nI (i + 1))), (6, .int (oI (mAbv (up2 w 0 0 0) a (((up2 w 0 0 0) 5) p_21) F))), (0, .ref (ad 0)), (1, .int a), (2, .int x2), (3, .int x3)]) S.1 S.2.1 d_M_cue_149 hl (k := 1) rfl (nI_1 i) (by decide) rfl (fun ls hl => ?_)
                                    refine lv_goto (tgt := 129) S.1 S.2.1 d_M_cue_152 (by decide) ?_
                                    exact ih _ _ ls hP hS (by rw [show mCw (up2 w 0 0 0) a F (i + 1) = mAbv (up2 w 0 0 0) a (up2 w 0 0 0 5 p_21) F from by rw [mCw, hX_22]]; exact lv_sub hl [0, 1, 2, 3, 4, 5] rfl)
                              exact L2 0 (Nat.zero_le _) _ _ ls hP hS (lv_sub hl [0, 1, 4, 5, 6, 7] rfl)
                            · refine lv_iload S.1 S.2.1 d_M_cue_115 (lv_at hl 1 rfl) ?_
                              exact uIret S hr hlk (up2 w 0 0 0) hP hS (by unfold mCuP; rw [if_pos ⟨c_a0, c_a4, c_i, c_n, c_w0, c_w6, Or.inr c_w⟩]; refine ⟨rfl, ?_⟩; rw [if_pos c_m]) d_M_cue_117
                          · exact absurd c_20 (by decide)
      · exact absurd (by subst hF; exact nI_le (Nat.le_refl 40) (by decide)) c_h
    · intro i hi ih H locs ls hP hS hl
      refine lv_iload S.1 S.2.1 d_M_cue_6 (lv_at hl 0 rfl) ?_
      refine lv_bipush (v := 40) S.1 S.2.1 d_M_cue_8 (by decide) ?_
      refine lv_icmp_ge (tgt := 44) S.1 S.2.1 d_M_cue_10 (by decide) (fun c_h => ?_) (fun c_h => ?_)
      · exact absurd c_h (nI_ge (b := 40) (by omega) (by decide))
      · refine lv_iload S.1 S.2.1 d_M_cue_13 (lv_at hl 1 rfl) ?_
        refine lv_iload_n S.1 S.2.1 d_M_cue_15 rfl (lv_at hl 3 rfl) ?_
        refine lv_if_lt (tgt := 34) S.1 S.2.1 d_M_cue_16 (by decide) (fun c_a => ?_) (fun c_a => ?_)
        · refine lv_iconst (v := 0) S.1 S.2.1 d_M_cue_34 (by decide) ?_
          refine lv_iadd S.1 S.2.1 d_M_cue_35 ?_
          refine lv_topi (fun x_23 ex_23 => ?_)
          refine lv_istore (lv' := [(4, .int x_23), (5, .int (nI i)), (0, .ref (ad 0)), (1, .int a), (2, .int x2), (3, .int x3)]) S.1 S.2.1 d_M_cue_36 hl (by decide) rfl (fun ls hl => ?_)
          refine lv_iinc (v := nI (i + 1)) (lv' := [(5, .int (nI (i + 1))), (4, .int x_23), (0, .ref (ad 0)), (1, .int a), (2, .int x2), (3, .int x3)]) S.1 S.2.1 d_M_cue_38 hl (k := 1) rfl (nI_1 i) (by decide) rfl (fun ls hl => ?_)
          refine lv_goto (tgt := 6) S.1 S.2.1 d_M_cue_41 (by decide) ?_
          exact ih _ _ ls hP hS (by rw [show mCl w a (i + 1) = x_23 from by rw [ex_23, mCl, if_neg (fun z => z.1 c_a)]]; exact lv_sub hl [0, 1, 2, 3, 4, 5] rfl)
        · refine lv_aload_n S.1 S.2.1 d_M_cue_19 rfl (lv_at hl 2 rfl) ?_
          refine ur_get (k := 0) (v := .ref (ad 4)) S hK hP (by decide) mg_obj rfl (fun w h => hU w (in_M w h)) 4 (by decide) (hU _ t3_164) rfl d_M_cue_20 ?_
          refine lv_iload S.1 S.2.1 d_M_cue_23 (lv_at hl 0 rfl) ?_
          refine ur_iald (k := 4) (n := 40) (f := (w 4)) (j := i) S hK hP (by decide) 0 (mg_arr 4 (by decide)) rfl rfl (by omega) (by decide) d_M_cue_25 ?_
          refine lv_iload_n S.1 S.2.1 d_M_cue_26 rfl (lv_at hl 3 rfl) ?_
          refine lv_icmp_ne (tgt := 34) S.1 S.2.1 d_M_cue_27 (by decide) (fun c_e => ?_) (fun c_e => ?_)
          · refine lv_iconst (v := 0) S.1 S.2.1 d_M_cue_34 (by decide) ?_
            refine lv_iadd S.1 S.2.1 d_M_cue_35 ?_
            refine lv_topi (fun x_24 ex_24 => ?_)
            refine lv_istore (lv' := [(4, .int x_24), (5, .int (nI i)), (0, .ref (ad 0)), (1, .int a), (2, .int x2), (3, .int x3)]) S.1 S.2.1 d_M_cue_36 hl (by decide) rfl (fun ls hl => ?_)
            refine lv_iinc (v := nI (i + 1)) (lv' := [(5, .int (nI (i + 1))), (4, .int x_24), (0, .ref (ad 0)), (1, .int a), (2, .int x2), (3, .int x3)]) S.1 S.2.1 d_M_cue_38 hl (k := 1) rfl (nI_1 i) (by decide) rfl (fun ls hl => ?_)
            refine lv_goto (tgt := 6) S.1 S.2.1 d_M_cue_41 (by decide) ?_
            exact ih _ _ ls hP hS (by rw [show mCl w a (i + 1) = x_24 from by rw [ex_24, mCl, if_neg (fun z => c_e z.2)]]; exact lv_sub hl [0, 1, 2, 3, 4, 5] rfl)
          · refine lv_iconst (v := 1) S.1 S.2.1 d_M_cue_30 (by decide) ?_
            refine lv_goto (tgt := 35) S.1 S.2.1 d_M_cue_31 (by decide) ?_
            refine lv_iadd S.1 S.2.1 d_M_cue_35 ?_
            refine lv_topi (fun x_25 ex_25 => ?_)
            refine lv_istore (lv' := [(4, .int x_25), (5, .int (nI i)), (0, .ref (ad 0)), (1, .int a), (2, .int x2), (3, .int x3)]) S.1 S.2.1 d_M_cue_36 hl (by decide) rfl (fun ls hl => ?_)
            refine lv_iinc (v := nI (i + 1)) (lv' := [(5, .int (nI (i + 1))), (4, .int x_25), (0, .ref (ad 0)), (1, .int a), (2, .int x2), (3, .int x3)]) S.1 S.2.1 d_M_cue_38 hl (k := 1) rfl (nI_1 i) (by decide) rfl (fun ls hl => ?_)
            refine lv_goto (tgt := 6) S.1 S.2.1 d_M_cue_41 (by decide) ?_
            exact ih _ _ ls hP hS (by rw [show mCl w a (i + 1) = x_25 from by rw [ex_25, mCl, if_pos ⟨c_a, c_e⟩]]; exact lv_sub hl [0, 1, 2, 3, 4, 5] rfl)
  exact L 0 (Nat.zero_le _) _ _ ls hP hS (lv_sub hl [0, 1, 2, 3, 4, 5] rfl)
