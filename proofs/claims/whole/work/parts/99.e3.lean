/-! The law's loop -/
theorem and31 (x : Int32) : ∃ j : Nat, j < 32 ∧ x &&& 31 = nI j := by
  refine ⟨(x &&& 31).toBitVec.toNat, ?_, ?_⟩
  · have h1 : (x &&& 31).toBitVec = x.toBitVec &&& 31#32 := rfl
    rw [h1, BitVec.toNat_and]
    have h2 : (x.toBitVec.toNat &&& (31#32).toNat) ≤ (31#32).toNat := Nat.and_le_right
    have h3 : (31#32).toNat = 31 := rfl
    omega
  · apply Int32.toBitVec_inj.mp
    apply BitVec.eq_of_toNat_eq
    show _ = (BitVec.ofNat 32 (x &&& 31).toBitVec.toNat).toNat
    rw [BitVec.toNat_ofNat, Nat.mod_eq_of_lt (BitVec.isLt _)]
theorem l_end {L t : Nat} (hL : L ≤ 2560) (h5 : 5 * t ≤ L) (h : ¬ nI L - 5 < nI (5 * t)) : 5 * t + 5 ≤ L := by
  rw [show (5 : Int32) = nI 5 from rfl, Int32.lt_iff_toInt_lt, pk_sub_toInt (by omega) (by omega), nI_toInt (by omega)] at h
  omega
set_option maxRecDepth 100000 in
set_option maxHeartbeats 4000000 in
theorem l_loop {p : Program} {l : Launch} {e : Env} {s : State} {m : MethodId} {below : List Frame} {meth : Method} {c : Code} {b L : Nat} {xs : Nat → Int32} {D : va_G} {ca : Nat → ClassId} {ad adm : Nat → Nat} (C0 : lC p l s m c b L xs D ca ad adm) (hrt : meth.sig.returnType = ret) (hlk : meth.locks = false) : ∀ (k t : Nat), L < 5 * t + 5 * k → 5 * t ≤ L → ∀ (H : Heap) (locs : List Loc) (ls : Array Slot) (st : xS) (o : Nat → Int64) (w : mS), va_P D clsAll (uw 166 ad (kG ca ad (st, o))) H → va_P D clsAll (uw 22 adm (mG ca adm w)) H → va_S (lA s) s.heap H locs → rel st w → lv_has ls 7 (lV ad adm b t) → lW p l e s m below meth c b H locs (188 + 2 * t) (12101 + 12 * t) 23 ls [] := by
  intro k
  induction k with
  | zero => intro t h1 h2; omega
  | succ k ih =>
    intro t h1 h2 H locs ls st o w hPd hPm hS hr hl
    have C1 := C0
    obtain ⟨S, hlf, hK, hN, hTK, hNC, hap, hX, hbl, hL⟩ := C1
    refine lv_iload S.1 S.2.1 d_L_law_23 (lv_at hl 0 rfl) ?_
    refine lv_aload_n S.1 S.2.1 d_L_law_25 rfl (lv_at hl 4 rfl) ?_
    refine va_slen S.1 S.2.1 hX hbl (Nat.not_le.mpr hbl) hS d_L_law_26 ?_
    refine lv_iconst (v := 5) S.1 S.2.1 d_L_law_27 (by decide) ?_
    refine lv_isub S.1 S.2.1 d_L_law_28 ?_
    refine lv_icmp_gt (tgt := 1388) S.1 S.2.1 d_L_law_29 (by decide) (fun _ => ?_) (fun c_h => ?_)
    · refine lv_iconst (v := 1) S.1 S.2.1 d_L_law_1388 (by decide) ?_
      exact va_forget hS.2.2 (W.widen (by omega) (by omega) (lw_ret S.1 S.2.1 hrt hlk d_L_law_1389))
    · have ht : 5 * t + 5 ≤ L := l_end hL h2 c_h
      have hNX : lNX p l e s m below meth c b D ca ad adm t := by
        intro H locs ls st o w hPd hPm hS hr hl
        refine lv_iinc (v := nI (5 * (t + 1))) (lv' := lV ad adm b (t + 1)) S.1 S.2.1 d_L_law_1382 hl (k := 0) rfl (by rw [show 5 * (t + 1) = 5 * t + 5 by omega]; exact nI_add (5 * t) 5) (by decide) rfl (fun ls hl => ?_)
        refine lv_goto (tgt := 23) S.1 S.2.1 d_L_law_1385 (by decide) ?_
        exact bCs (by omega) (by omega) (ih (t + 1) (by omega) (by omega) H locs ls st o w hPd hPm hS hr hl)
      refine lv_aload_n S.1 S.2.1 d_L_law_32 rfl (lv_at hl 4 rfl) ?_
      refine lv_iload S.1 S.2.1 d_L_law_33 (lv_at hl 0 rfl) ?_
      refine va_sld S.1 S.2.1 hX hbl (Nat.not_le.mpr hbl) hS (vp_in_nI (show 5 * t < L by omega) (by omega)) d_L_law_35 ?_
      refine lv_bipush (v := 31) S.1 S.2.1 d_L_law_36 (by decide) ?_
      refine lv_iand S.1 S.2.1 d_L_law_38 ?_
      obtain ⟨j, hj, he⟩ := and31 (xs (nI (5 * t)).toNatClampNeg)
      rw [he]
      by_cases hj20 : j < 20
      · rcases (by omega : j = 0 ∨ j = 1 ∨ j = 2 ∨ j = 3 ∨ j = 4 ∨ j = 5 ∨ j = 6 ∨ j = 7 ∨ j = 8 ∨ j = 9 ∨ j = 10 ∨ j = 11 ∨ j = 12 ∨ j = 13 ∨ j = 14 ∨ j = 15 ∨ j = 16 ∨ j = 17 ∨ j = 18 ∨ j = 19) with rfl | rfl | rfl | rfl | rfl | rfl | rfl | rfl | rfl | rfl | rfl | rfl | rfl | rfl | rfl | rfl | rfl | rfl | rfl | rfl
        · exact lv_tableIn (tgt := 132) S.1 S.2.1 d_L_law_39 (by decide) (by decide) (show _ = some (93 : Int) from rfl) (by decide) (lb_kind (M := 64) (F := 40) (Q6 := 6) (T1 := 1000) rfl rfl rfl rfl C0 ht hNX hPd hPm hS hr hl)
        · exact lv_tableIn (tgt := 185) S.1 S.2.1 d_L_law_39 (by decide) (by decide) (show _ = some (146 : Int) from rfl) (by decide) (lb_set (M := 64) (F := 40) (Q6 := 6) (T1 := 1000) rfl rfl rfl rfl C0 ht hNX hPd hPm hS hr hl)
        · exact lv_tableIn (tgt := 222) S.1 S.2.1 d_L_law_39 (by decide) (by decide) (show _ = some (183 : Int) from rfl) (by decide) (lb_use (M := 64) (F := 40) (Q6 := 6) (T1 := 1000) rfl rfl rfl rfl C0 ht hNX hPd hPm hS hr hl)
        · exact lv_tableIn (tgt := 259) S.1 S.2.1 d_L_law_39 (by decide) (by decide) (show _ = some (220 : Int) from rfl) (by decide) (lb_release (M := 64) (F := 40) (Q6 := 6) (T1 := 1000) rfl rfl rfl rfl C0 ht hNX hPd hPm hS hr hl)
        · exact lv_tableIn (tgt := 284) S.1 S.2.1 d_L_law_39 (by decide) (by decide) (show _ = some (245 : Int) from rfl) (by decide) (lb_palette (M := 64) (F := 40) (Q6 := 6) (T1 := 1000) rfl rfl rfl rfl C0 ht hNX hPd hPm hS hr hl)
        · exact lv_tableIn (tgt := 333) S.1 S.2.1 d_L_law_39 (by decide) (by decide) (show _ = some (294 : Int) from rfl) (by decide) (lb_record (M := 64) (F := 40) (Q6 := 6) (T1 := 1000) rfl rfl rfl rfl C0 ht hNX hPd hPm hS hr hl)
        · exact lv_tableIn (tgt := 429) S.1 S.2.1 d_L_law_39 (by decide) (by decide) (show _ = some (390 : Int) from rfl) (by decide) (lb_update (M := 64) (F := 40) (Q6 := 6) (T1 := 1000) rfl rfl rfl rfl C0 ht hNX hPd hPm hS hr hl)
        · exact lv_tableIn (tgt := 497) S.1 S.2.1 d_L_law_39 (by decide) (by decide) (show _ = some (458 : Int) from rfl) (by decide) (lb_delete (M := 64) (F := 40) (Q6 := 6) (T1 := 1000) rfl rfl rfl rfl C0 ht hNX hPd hPm hS hr hl)
        · exact lv_tableIn (tgt := 593) S.1 S.2.1 d_L_law_39 (by decide) (by decide) (show _ = some (554 : Int) from rfl) (by decide) (lb_block (M := 64) (F := 40) (Q6 := 6) (T1 := 1000) rfl rfl rfl rfl C0 ht hNX hPd hPm hS hr hl)
        · exact lv_tableIn (tgt := 689) S.1 S.2.1 d_L_law_39 (by decide) (by decide) (show _ = some (650 : Int) from rfl) (by decide) (lb_times (M := 64) (F := 40) (Q6 := 6) (T1 := 1000) rfl rfl rfl rfl C0 ht hNX hPd hPm hS hr hl)
        · exact lv_tableIn (tgt := 750) S.1 S.2.1 d_L_law_39 (by decide) (by decide) (show _ = some (711 : Int) from rfl) (by decide) (lb_delays (M := 64) (F := 40) (Q6 := 6) (T1 := 1000) rfl rfl rfl rfl C0 ht hNX hPd hPm hS hr hl)
        · exact lv_tableIn (tgt := 811) S.1 S.2.1 d_L_law_39 (by decide) (by decide) (show _ = some (772 : Int) from rfl) (by decide) (lb_look (M := 64) (F := 40) (Q6 := 6) (T1 := 1000) rfl rfl rfl rfl C0 ht hNX hPd hPm hS hr hl)
        · exact lv_tableIn (tgt := 891) S.1 S.2.1 d_L_law_39 (by decide) (by decide) (show _ = some (852 : Int) from rfl) (by decide) (lb_source (M := 64) (F := 40) (Q6 := 6) (T1 := 1000) rfl rfl rfl rfl C0 ht hNX hPd hPm hS hr hl)
        · exact lv_tableIn (tgt := 971) S.1 S.2.1 d_L_law_39 (by decide) (by decide) (show _ = some (932 : Int) from rfl) (by decide) (lb_cue (M := 64) (F := 40) (Q6 := 6) (T1 := 1000) rfl rfl rfl rfl C0 ht hNX hPd hPm hS hr hl)
        · exact lv_tableIn (tgt := 1051) S.1 S.2.1 d_L_law_39 (by decide) (by decide) (show _ = some (1012 : Int) from rfl) (by decide) (lb_assign (M := 64) (F := 40) (Q6 := 6) (T1 := 1000) rfl rfl rfl rfl C0 ht hNX hPd hPm hS hr hl)
        · exact lv_tableIn (tgt := 1088) S.1 S.2.1 d_L_law_39 (by decide) (by decide) (show _ = some (1049 : Int) from rfl) (by decide) (lb_go (M := 64) (F := 40) (Q6 := 6) (T1 := 1000) rfl rfl rfl rfl C0 ht hNX hPd hPm hS hr hl)
        · exact lv_tableIn (tgt := 1184) S.1 S.2.1 d_L_law_39 (by decide) (by decide) (show _ = some (1145 : Int) from rfl) (by decide) (lb_master (M := 64) (F := 40) (Q6 := 6) (T1 := 1000) rfl rfl rfl rfl C0 ht hNX hPd hPm hS hr hl)
        · exact lv_tableIn (tgt := 1221) S.1 S.2.1 d_L_law_39 (by decide) (by decide) (show _ = some (1182 : Int) from rfl) (by decide) (lb_out (M := 64) (F := 40) (Q6 := 6) (T1 := 1000) rfl rfl rfl rfl C0 ht hNX hPd hPm hS hr hl)
        · exact lv_tableIn (tgt := 1289) S.1 S.2.1 d_L_law_39 (by decide) (by decide) (show _ = some (1250 : Int) from rfl) (by decide) (lb_playback (M := 64) (F := 40) (Q6 := 6) (T1 := 1000) rfl rfl rfl rfl C0 ht hNX hPd hPm hS hr hl)
        · exact lv_tableIn (tgt := 1357) S.1 S.2.1 d_L_law_39 (by decide) (by decide) (show _ = some (1318 : Int) from rfl) (by decide) (lb_count (M := 64) (F := 40) (Q6 := 6) (T1 := 1000) rfl rfl rfl rfl C0 ht hNX hPd hPm hS hr hl)
      · exact lv_tableOut (tgt := 1382) S.1 S.2.1 d_L_law_39 (Or.inr (by rw [nI_toInt (by omega)]; omega)) (by decide) (W.widen (by omega) (by omega) (hNX H locs ls st o w hPd hPm hS hr hl))
