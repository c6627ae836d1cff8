set_option maxRecDepth 100000 in
set_option maxHeartbeats 4000000 in
/-- from the entry, for every script of at most 2560 ints, the law comes to its end with true -/
theorem whole_start {p : Program} {e : Env} {s : State} {m : MethodId} {below : List Frame} {meth : Method} {c : Code} (l : Launch) (hlf : l.flags = pinnedFlags ++ [noTraceFlag]) {b L : Nat} {xs : Nat → Int32} (hL : L ≤ 2560) (C0 : lw_At p s m meth c b L xs) : W p l e room_1 s m #[Value.ref b] below meth c s.heap [] 0 0 (lw_Z below #[Value.ref b] s) (entryFrame m ([Value.ref b] : List Value).toArray 7) := by
  obtain ⟨hx, hb, hr, hml, hown, hts, hX, hbl, hlocks, hgv⟩ := C0
  have S : CallFix p m c code 7 s #[Value.ref b] lw_tbl "LightingDeskLaw" := ⟨hx, hb, hml, hown, hts⟩
  obtain ⟨D, ca, hK⟩ := lw_K hts
  have hN := lw_N hts
  have hXX := lw_X hts
  have hNC := lw_nc hgv
  have hTK := lw_tk hts hgv (hK.1 5 _ rfl).2.1
  have hU : ∀ w ∈ uWS, w ∈ lw_tbl := fun w h => uWS_in h
  have hS : va_S (lA s) s.heap s.heap [] := va_S.rf
  have hl := lv_entry ([.ref b]) (n := 7) (Nat.le_of_ble_eq_true rfl)
  rw [lg_entry_eq]
  generalize (lg_sl ([.ref b]) ++ List.replicate (7 - (lg_sl ([.ref b])).length) Slot.unset).toArray = ls at hl ⊢
  have hl : lv_has ls 7 [(0, .ref b)] := hl
  refine lNew (ci := 5) (fs := [.null, .null, .null, .null, .null, .int 0, .int 0]) S hK hS (fun w h => uWS_in (in_D w h)) ty_D tyk_D (hU _ t1_18) (hU _ t1_19) (hU _ t1_1) rfl df_D (by decide) (by decide) d_L_law_0 (fun H1 hP1 z1 o1 hS => ?_)
  refine lv_dup S.1 S.2.1 d_L_law_3 rfl ?_
  refine lInit (a := s.heap.size) (rest := [.ref s.heap.size]) S hK hN hXX (Nat.le_refl _) hP1 hS (c_D_init (ca := ca)) hU t1_22 t1_20 t1_1 t1_21 rfl (by decide +kernel) ⟨by decide, by decide⟩ hl.1 (Nat.le_of_ble_eq_true rfl) ⟨by decide, by decide⟩ d_L_law_4 (fun H2 locs2 hP2 z2 o2 hS => ?_)
  rw [z1] at hP2
  refine lv_astore_n (lv' := [(1, .ref s.heap.size), (0, .ref b)]) S.1 S.2.1 d_L_law_7 rfl hl (by decide) rfl (fun ls hl => ?_)
  refine lNew (ci := 6) (fs := [.int 0, .null, .null, .null, .null, .null, .null, .null, .null, .null, .null, .null, .null, .null, .null, .null, .null, .null, .null, .null, .null, .null, .int 0, .int 0]) S hK hS (fun w h => uWS_in (in_M w h)) ty_M tyk_M (hU _ t3_154) (hU _ t3_155) (hU _ t1_8) rfl df_M (by decide) (by decide) d_L_law_8 (fun H3 hP3 z3 o3 hS => ?_)
  refine lv_dup S.1 S.2.1 d_L_law_11 rfl ?_
  refine lInit (a := H2.size) (rest := [.ref H2.size]) S hK hN hXX (by omega) hP3 hS (c_M_init (ca := ca)) hU t3_158 t3_156 t1_8 t3_157 rfl (by decide +kernel) ⟨by decide, by decide⟩ hl.1 (Nat.le_of_ble_eq_true rfl) ⟨by decide, by decide⟩ d_L_law_12 (fun H4 locs4 hP4 z4 o4 hS => ?_)
  rw [z3] at hP4
  refine lv_astore_n (lv' := [(2, .ref H2.size), (1, .ref s.heap.size), (0, .ref b)]) S.1 S.2.1 d_L_law_15 rfl hl (by decide) rfl (fun ls hl => ?_)
  refine lv_iconst (v := 1) S.1 S.2.1 d_L_law_16 (by decide) ?_
  refine lNewa (atype := .long) (cA0 := ca 5) (a0 := (1, .inr (.inl (fun _ => 0)))) 5 S hK hS (hU _ t4_179) rfl rfl (fun h => h) (fun cA => bpr_long cA) (by decide) (by decide) (by decide) (by decide) (by decide) d_L_law_17 (fun H5 hP5 o5 hS => ?_)
  have hd2 : ∀ k, k < 165 → bAd s.heap.size (s.heap.size + 1) k < H2.size := fun k hk => uP_lt hP2 hk
  have hm4 : ∀ k, k < 22 → bAd H2.size (H2.size + 1) k < H4.size := fun k hk => uP_lt hP4 hk
  have h12 : s.heap.size ≤ H2.size := by omega
  have hPd5 : va_P D clsAll (uw 165 (bAd s.heap.size (s.heap.size + 1)) (bL (cL_D ca s.heap.size (s.heap.size + 1)))) H5 := by
    refine uP_kept hP2 (fun k hk => ?_)
    have h1 := hd2 k hk
    rw [o5 _ (by omega), o4 _ (by omega) (by omega), o3 _ h1]
  have hPm5 : va_P D clsAll (uw 22 (bAd H2.size (H2.size + 1)) (mG ca (bAd H2.size (H2.size + 1)) wI)) H5 := uP_kept hP4 (fun k hk => o5 _ (hm4 k hk))
  obtain ⟨ad, ha0, ha165, hap, hPd⟩ := l_worlds (s := s) (Nat.le_refl _) hPd5 hd2 h12 hPm5 hm4 hP5
  rw [← ha165]
  rw [← ha0] at hl
  refine lv_astore_n (lv' := [(3, .ref (ad 165)), (2, .ref H2.size), (1, .ref (ad 0)), (0, .ref b)]) S.1 S.2.1 d_L_law_19 rfl hl (by decide) rfl (fun ls hl => ?_)
  refine lv_iconst (v := 0) S.1 S.2.1 d_L_law_20 (by decide) ?_
  refine lv_istore (lv' := lV ad (bAd H2.size (H2.size + 1)) b 0) S.1 S.2.1 d_L_law_21 hl (by decide) rfl (fun ls hl => ?_)
  exact W.widen (by decide) (by decide) (l_loop ⟨S, hlf, hK, hN, hTK, hNC, hap, hX, hbl, hL⟩ hr hlocks (L + 1) 0 (by omega) (by omega) H5 _ ls (vI, id) (fun _ => 0) wI hPd hPm5 hS init_rel hl)
