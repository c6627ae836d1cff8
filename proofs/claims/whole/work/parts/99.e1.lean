/-! The law's blocks (printed by wip/gen/gen_l2.py) -/
set_option maxRecDepth 100000 in
set_option maxHeartbeats 4000000 in
theorem lb_kind {p : Program} {l : Launch} {e : Env} {s : State} {m : MethodId} {below : List Frame} {meth : Method} {c : Code} {b L : Nat} {xs : Nat → Int32} {D : va_G} {ca : Nat → ClassId} {ad adm : Nat → Nat} {H : Heap} {locs : List Loc} {t : Nat} {ls : Array Slot} {M F Q6 T1 : Nat} (hM : M = 64) (hF : F = 40) (h6 : Q6 = 6) (hT1 : T1 = 1000) (C0 : lC p l s m c b L xs D ca ad adm) (ht : 5 * t + 5 ≤ L) (hNX : lNX p l e s m below meth c b D ca ad adm t) {st : xS} {o : Nat → Int64} {w : mS} (hPd : va_P D clsAll (uw 166 ad (kG ca ad (st, o))) H) (hPm : va_P D clsAll (uw 22 adm (mG ca adm w)) H) (hS : va_S (lA s) s.heap H locs) (hr : rel st w) (hl : lv_has ls 7 (lV ad adm b t)) : lW p l e s m below meth c b H locs (188 + 2 * t) (12101 + 12 * t) 132 ls [] := by
  obtain ⟨v, π⟩ := st
  obtain ⟨n, σ, hb, ho⟩ := rel_get hr
  have C1 := C0
  obtain ⟨S, hlf, hK, hN, hTK, hNC, hap, hX, hbl, hL⟩ := C1
  have hU : ∀ w ∈ uWS, w ∈ lw_tbl := fun w h => uWS_in h
  have ht5 : t ≤ 512 := by omega
  have hJ5 : uJ 165 ad := fun i j hi hj => hap.1 i j (by omega) (by omega)
  refine lv_aload_n S.1 S.2.1 d_L_law_132 rfl (lv_at hl 3 rfl) ?_
  refine l_arg C0 hl hS 1 (by omega) (by decide) d_L_law_133 d_L_law_134 d_L_law_136 d_L_law_137 d_L_law_138 ?_
  refine l_arg C0 hl hS 2 (by omega) (by decide) d_L_law_139 d_L_law_140 d_L_law_142 d_L_law_143 d_L_law_144 ?_
  refine l_bool C0 152 d_L_law_145 d_L_law_148 d_L_law_149 d_L_law_152 rfl ?_
  refine lDi (n := 2) (As := [.int (xs (5 * t + 1)), .int (bz (xs (5 * t + 2)))]) (rest := []) S hK hN hap hPd hPm hS (c_D_kind hJ5 v π _ _ (bz_nar _)) ⟨hU, t1_183, t1_180, t1_1, by decide +kernel, by decide, by decide⟩ t1_181 t1_182 xg_desk rfl rfl rfl hl.1 rfl (Nat.le_of_ble_eq_true rfl) d_L_law_153 ⟨by show 188 + 2 * t ≤ 601024; omega, by show 12101 + 12 * t ≤ 7293033; omega⟩ (fun r u H locs hp hPd hPm hS => ?_)
  refine lv_aload_n S.1 S.2.1 d_L_law_156 rfl (lv_at hl 2 rfl) ?_
  refine l_arg C0 hl hS 1 (by omega) (by decide) d_L_law_157 d_L_law_158 d_L_law_160 d_L_law_161 d_L_law_162 ?_
  refine l_arg C0 hl hS 2 (by omega) (by decide) d_L_law_163 d_L_law_164 d_L_law_166 d_L_law_167 d_L_law_168 ?_
  refine l_bool C0 176 d_L_law_169 d_L_law_172 d_L_law_173 d_L_law_176 rfl ?_
  refine lMi (n := 2) (As := [.int (xs (5 * t + 1)), .int (bz (xs (5 * t + 2)))]) (rest := [.int r]) S hK hN hap hPd hPm hS (c_M_kind hap.2.1 w _ _ (bz_nar _)) ⟨hU, t4_1, t3_238, t1_8, by decide +kernel, by decide, by decide⟩ t3_239 t4_0 mg_obj rfl rfl rfl hl.1 rfl (Nat.le_of_ble_eq_true rfl) d_L_law_177 ⟨by show 188 + 2 * t ≤ 601024; omega, by show 12101 + 12 * t ≤ 7293033; omega⟩ (fun r1 w1 H locs hq hPd hPm hS => ?_)
  obtain ⟨hre, hrl⟩ := op_kind hr hp hq
  refine lv_icmp_eq (tgt := 1382) S.1 S.2.1 d_L_law_180 (by decide) (fun _ => ?_) (fun c_h => absurd hre c_h)
  exact W.widen (by omega) (by omega) (hNX H locs ls u o w1 hPd hPm hS hrl hl)

set_option maxRecDepth 100000 in
set_option maxHeartbeats 4000000 in
theorem lb_set {p : Program} {l : Launch} {e : Env} {s : State} {m : MethodId} {below : List Frame} {meth : Method} {c : Code} {b L : Nat} {xs : Nat → Int32} {D : va_G} {ca : Nat → ClassId} {ad adm : Nat → Nat} {H : Heap} {locs : List Loc} {t : Nat} {ls : Array Slot} {M F Q6 T1 : Nat} (hM : M = 64) (hF : F = 40) (h6 : Q6 = 6) (hT1 : T1 = 1000) (C0 : lC p l s m c b L xs D ca ad adm) (ht : 5 * t + 5 ≤ L) (hNX : lNX p l e s m below meth c b D ca ad adm t) {st : xS} {o : Nat → Int64} {w : mS} (hPd : va_P D clsAll (uw 166 ad (kG ca ad (st, o))) H) (hPm : va_P D clsAll (uw 22 adm (mG ca adm w)) H) (hS : va_S (lA s) s.heap H locs) (hr : rel st w) (hl : lv_has ls 7 (lV ad adm b t)) : lW p l e s m below meth c b H locs (188 + 2 * t) (12101 + 12 * t) 185 ls [] := by
  obtain ⟨v, π⟩ := st
  obtain ⟨n, σ, hb, ho⟩ := rel_get hr
  have C1 := C0
  obtain ⟨S, hlf, hK, hN, hTK, hNC, hap, hX, hbl, hL⟩ := C1
  have hU : ∀ w ∈ uWS, w ∈ lw_tbl := fun w h => uWS_in h
  have ht5 : t ≤ 512 := by omega
  have hJ5 : uJ 165 ad := fun i j hi hj => hap.1 i j (by omega) (by omega)
  refine lv_aload_n S.1 S.2.1 d_L_law_185 rfl (lv_at hl 3 rfl) ?_
  refine l_arg C0 hl hS 1 (by omega) (by decide) d_L_law_186 d_L_law_187 d_L_law_189 d_L_law_190 d_L_law_191 ?_
  refine l_arg C0 hl hS 2 (by omega) (by decide) d_L_law_192 d_L_law_193 d_L_law_195 d_L_law_196 d_L_law_197 ?_
  refine lDi (n := 2) (As := [.int (xs (5 * t + 1)), .int (xs (5 * t + 2))]) (rest := []) S hK hN hap hPd hPm hS (c_D_set hJ5 v π _ _) ⟨hU, t1_190, t1_187, t1_1, by decide +kernel, by decide, by decide⟩ t1_188 t1_189 xg_desk rfl rfl rfl hl.1 rfl (Nat.le_of_ble_eq_true rfl) d_L_law_198 ⟨by show 188 + 2 * t ≤ 601024; omega, by show 12101 + 12 * t ≤ 7293033; omega⟩ (fun r u H locs hp hPd hPm hS => ?_)
  refine lv_aload_n S.1 S.2.1 d_L_law_201 rfl (lv_at hl 2 rfl) ?_
  refine l_arg C0 hl hS 1 (by omega) (by decide) d_L_law_202 d_L_law_203 d_L_law_205 d_L_law_206 d_L_law_207 ?_
  refine l_arg C0 hl hS 2 (by omega) (by decide) d_L_law_208 d_L_law_209 d_L_law_211 d_L_law_212 d_L_law_213 ?_
  refine lMi (n := 2) (As := [.int (xs (5 * t + 1)), .int (xs (5 * t + 2))]) (rest := [.int r]) S hK hN hap hPd hPm hS (c_M_set hap.2.1 w _ _) ⟨hU, t4_8, t4_5, t1_8, by decide +kernel, by decide, by decide⟩ t4_6 t4_7 mg_obj rfl rfl rfl hl.1 rfl (Nat.le_of_ble_eq_true rfl) d_L_law_214 ⟨by show 188 + 2 * t ≤ 601024; omega, by show 12101 + 12 * t ≤ 7293033; omega⟩ (fun r1 w1 H locs hq hPd hPm hS => ?_)
  obtain ⟨hre, hrl⟩ := op_set hr hp hq
  refine lv_icmp_eq (tgt := 1382) S.1 S.2.1 d_L_law_217 (by decide) (fun _ => ?_) (fun c_h => absurd hre c_h)
  exact W.widen (by omega) (by omega) (hNX H locs ls u o w1 hPd hPm hS hrl hl)

set_option maxRecDepth 100000 in
set_option maxHeartbeats 4000000 in
theorem lb_use {p : Program} {l : Launch} {e : Env} {s : State} {m : MethodId} {below : List Frame} {meth : Method} {c : Code} {b L : Nat} {xs : Nat → Int32} {D : va_G} {ca : Nat → ClassId} {ad adm : Nat → Nat} {H : Heap} {locs : List Loc} {t : Nat} {ls : Array Slot} {M F Q6 T1 : Nat} (hM : M = 64) (hF : F = 40) (h6 : Q6 = 6) (hT1 : T1 = 1000) (C0 : lC p l s m c b L xs D ca ad adm) (ht : 5 * t + 5 ≤ L) (hNX : lNX p l e s m below meth c b D ca ad adm t) {st : xS} {o : Nat → Int64} {w : mS} (hPd : va_P D clsAll (uw 166 ad (kG ca ad (st, o))) H) (hPm : va_P D clsAll (uw 22 adm (mG ca adm w)) H) (hS : va_S (lA s) s.heap H locs) (hr : rel st w) (hl : lv_has ls 7 (lV ad adm b t)) : lW p l e s m below meth c b H locs (188 + 2 * t) (12101 + 12 * t) 222 ls [] := by
  obtain ⟨v, π⟩ := st
  obtain ⟨n, σ, hb, ho⟩ := rel_get hr
  have C1 := C0
  obtain ⟨S, hlf, hK, hN, hTK, hNC, hap, hX, hbl, hL⟩ := C1
  have hU : ∀ w ∈ uWS, w ∈ lw_tbl := fun w h => uWS_in h
  have ht5 : t ≤ 512 := by omega
  have hJ5 : uJ 165 ad := fun i j hi hj => hap.1 i j (by omega) (by omega)
  refine lv_aload_n S.1 S.2.1 d_L_law_222 rfl (lv_at hl 3 rfl) ?_
  refine l_arg C0 hl hS 1 (by omega) (by decide) d_L_law_223 d_L_law_224 d_L_law_226 d_L_law_227 d_L_law_228 ?_
  refine l_arg C0 hl hS 2 (by omega) (by decide) d_L_law_229 d_L_law_230 d_L_law_232 d_L_law_233 d_L_law_234 ?_
  refine lDi (n := 2) (As := [.int (xs (5 * t + 1)), .int (xs (5 * t + 2))]) (rest := []) S hK hN hap hPd hPm hS (c_D_use hJ5 v π _ _) ⟨hU, t1_201, t1_198, t1_1, by decide +kernel, by decide, by decide⟩ t1_199 t1_200 xg_desk rfl rfl rfl hl.1 rfl (Nat.le_of_ble_eq_true rfl) d_L_law_235 ⟨by show 188 + 2 * t ≤ 601024; omega, by show 12101 + 12 * t ≤ 7293033; omega⟩ (fun r u H locs hp hPd hPm hS => ?_)
  refine lv_aload_n S.1 S.2.1 d_L_law_238 rfl (lv_at hl 2 rfl) ?_
  refine l_arg C0 hl hS 1 (by omega) (by decide) d_L_law_239 d_L_law_240 d_L_law_242 d_L_law_243 d_L_law_244 ?_
  refine l_arg C0 hl hS 2 (by omega) (by decide) d_L_law_245 d_L_law_246 d_L_law_248 d_L_law_249 d_L_law_250 ?_
  refine lMi (n := 2) (As := [.int (xs (5 * t + 1)), .int (xs (5 * t + 2))]) (rest := [.int r]) S hK hN hap hPd hPm hS (c_M_use hap.2.1 w _ _) ⟨hU, t4_15, t4_12, t1_8, by decide +kernel, by decide, by decide⟩ t4_13 t4_14 mg_obj rfl rfl rfl hl.1 rfl (Nat.le_of_ble_eq_true rfl) d_L_law_251 ⟨by show 188 + 2 * t ≤ 601024; omega, by show 12101 + 12 * t ≤ 7293033; omega⟩ (fun r1 w1 H locs hq hPd hPm hS => ?_)
  obtain ⟨hre, hrl⟩ := op_use hr hp hq
  refine lv_icmp_eq (tgt := 1382) S.1 S.2.1 d_L_law_254 (by decide) (fun _ => ?_) (fun c_h => absurd hre c_h)
  exact W.widen (by omega) (by omega) (hNX H locs ls u o w1 hPd hPm hS hrl hl)

set_option maxRecDepth 100000 in
set_option maxHeartbeats 4000000 in
theorem lb_release {p : Program} {l : Launch} {e : Env} {s : State} {m : MethodId} {below : List Frame} {meth : Method} {c : Code} {b L : Nat} {xs : Nat → Int32} {D : va_G} {ca : Nat → ClassId} {ad adm : Nat → Nat} {H : Heap} {locs : List Loc} {t : Nat} {ls : Array Slot} {M F Q6 T1 : Nat} (hM : M = 64) (hF : F = 40) (h6 : Q6 = 6) (hT1 : T1 = 1000) (C0 : lC p l s m c b L xs D ca ad adm) (ht : 5 * t + 5 ≤ L) (hNX : lNX p l e s m below meth c b D ca ad adm t) {st : xS} {o : Nat → Int64} {w : mS} (hPd : va_P D clsAll (uw 166 ad (kG ca ad (st, o))) H) (hPm : va_P D clsAll (uw 22 adm (mG ca adm w)) H) (hS : va_S (lA s) s.heap H locs) (hr : rel st w) (hl : lv_has ls 7 (lV ad adm b t)) : lW p l e s m below meth c b H locs (188 + 2 * t) (12101 + 12 * t) 259 ls [] := by
  obtain ⟨v, π⟩ := st
  obtain ⟨n, σ, hb, ho⟩ := rel_get hr
  have C1 := C0
  obtain ⟨S, hlf, hK, hN, hTK, hNC, hap, hX, hbl, hL⟩ := C1
  have hU : ∀ w ∈ uWS, w ∈ lw_tbl := fun w h => uWS_in h
  have ht5 : t ≤ 512 := by omega
  have hJ5 : uJ 165 ad := fun i j hi hj => hap.1 i j (by omega) (by omega)
  refine lv_aload_n S.1 S.2.1 d_L_law_259 rfl (lv_at hl 3 rfl) ?_
  refine l_arg C0 hl hS 1 (by omega) (by decide) d_L_law_260 d_L_law_261 d_L_law_263 d_L_law_264 d_L_law_265 ?_
  refine lDi (n := 1) (As := [.int (xs (5 * t + 1))]) (rest := []) S hK hN hap hPd hPm hS (c_D_release hJ5 v π _) ⟨hU, t1_208, t1_205, t1_1, by decide +kernel, by decide, by decide⟩ t1_206 t1_207 xg_desk rfl rfl rfl hl.1 rfl (Nat.le_of_ble_eq_true rfl) d_L_law_266 ⟨by show 188 + 2 * t ≤ 601024; omega, by show 12101 + 12 * t ≤ 7293033; omega⟩ (fun r u H locs hp hPd hPm hS => ?_)
  refine lv_aload_n S.1 S.2.1 d_L_law_269 rfl (lv_at hl 2 rfl) ?_
  refine l_arg C0 hl hS 1 (by omega) (by decide) d_L_law_270 d_L_law_271 d_L_law_273 d_L_law_274 d_L_law_275 ?_
  refine lMi (n := 1) (As := [.int (xs (5 * t + 1))]) (rest := [.int r]) S hK hN hap hPd hPm hS (c_M_release hap.2.1 w M hM _) ⟨hU, t4_19, t4_16, t1_8, by decide +kernel, by decide, by decide⟩ t4_17 t4_18 mg_obj rfl rfl rfl hl.1 rfl (Nat.le_of_ble_eq_true rfl) d_L_law_276 ⟨by show 188 + 2 * t ≤ 601024; omega, by show 12101 + 12 * t ≤ 7293033; omega⟩ (fun r1 w1 H locs hq hPd hPm hS => ?_)
  obtain ⟨hre, hrl⟩ := op_release hr hM hp hq
  refine lv_icmp_eq (tgt := 1382) S.1 S.2.1 d_L_law_279 (by decide) (fun _ => ?_) (fun c_h => absurd hre c_h)
  exact W.widen (by omega) (by omega) (hNX H locs ls u o w1 hPd hPm hS hrl hl)

set_option maxRecDepth 100000 in
set_option maxHeartbeats 4000000 in
theorem lb_palette {p : Program} {l : Launch} {e : Env} {s : State} {m : MethodId} {below : List Frame} {meth : Method} {c : Code} {b L : Nat} {xs : Nat → Int32} {D : va_G} {ca : Nat → ClassId} {ad adm : Nat → Nat} {H : Heap} {locs : List Loc} {t : Nat} {ls : Array Slot} {M F Q6 T1 : Nat} (hM : M = 64) (hF : F = 40) (h6 : Q6 = 6) (hT1 : T1 = 1000) (C0 : lC p l s m c b L xs D ca ad adm) (ht : 5 * t + 5 ≤ L) (hNX : lNX p l e s m below meth c b D ca ad adm t) {st : xS} {o : Nat → Int64} {w : mS} (hPd : va_P D clsAll (uw 166 ad (kG ca ad (st, o))) H) (hPm : va_P D clsAll (uw 22 adm (mG ca adm w)) H) (hS : va_S (lA s) s.heap H locs) (hr : rel st w) (hl : lv_has ls 7 (lV ad adm b t)) : lW p l e s m below meth c b H locs (188 + 2 * t) (12101 + 12 * t) 284 ls [] := by
  obtain ⟨v, π⟩ := st
  obtain ⟨n, σ, hb, ho⟩ := rel_get hr
  have C1 := C0
  obtain ⟨S, hlf, hK, hN, hTK, hNC, hap, hX, hbl, hL⟩ := C1
  have hU : ∀ w ∈ uWS, w ∈ lw_tbl := fun w h => uWS_in h
  have ht5 : t ≤ 512 := by omega
  have hJ5 : uJ 165 ad := fun i j hi hj => hap.1 i j (by omega) (by omega)
  refine lv_aload_n S.1 S.2.1 d_L_law_284 rfl (lv_at hl 3 rfl) ?_
  refine l_arg C0 hl hS 1 (by omega) (by decide) d_L_law_285 d_L_law_286 d_L_law_288 d_L_law_289 d_L_law_290 ?_
  refine l_arg C0 hl hS 2 (by omega) (by decide) d_L_law_291 d_L_law_292 d_L_law_294 d_L_law_295 d_L_law_296 ?_
  refine l_arg C0 hl hS 3 (by omega) (by decide) d_L_law_297 d_L_law_298 d_L_law_300 d_L_law_301 d_L_law_302 ?_
  refine lDi (n := 3) (As := [.int (xs (5 * t + 1)), .int (xs (5 * t + 2)), .int (xs (5 * t + 3))]) (rest := []) S hK hN hap hPd hPm hS (c_D_palette hJ5 v π _ _ _) ⟨hU, t1_220, t1_217, t1_1, by decide +kernel, by decide, by decide⟩ t1_218 t1_219 xg_desk rfl rfl rfl hl.1 rfl (Nat.le_of_ble_eq_true rfl) d_L_law_303 ⟨by show 188 + 2 * t ≤ 601024; omega, by show 12101 + 12 * t ≤ 7293033; omega⟩ (fun r u H locs hp hPd hPm hS => ?_)
  refine lv_aload_n S.1 S.2.1 d_L_law_306 rfl (lv_at hl 2 rfl) ?_
  refine l_arg C0 hl hS 1 (by omega) (by decide) d_L_law_307 d_L_law_308 d_L_law_310 d_L_law_311 d_L_law_312 ?_
  refine l_arg C0 hl hS 2 (by omega) (by decide) d_L_law_313 d_L_law_314 d_L_law_316 d_L_law_317 d_L_law_318 ?_
  refine l_arg C0 hl hS 3 (by omega) (by decide) d_L_law_319 d_L_law_320 d_L_law_322 d_L_law_323 d_L_law_324 ?_
  refine lMi (n := 3) (As := [.int (xs (5 * t + 1)), .int (xs (5 * t + 2)), .int (xs (5 * t + 3))]) (rest := [.int r]) S hK hN hap hPd hPm hS (c_M_palette hap.2.1 w _ _ _) ⟨hU, t4_23, t4_20, t1_8, by decide +kernel, by decide, by decide⟩ t4_21 t4_22 mg_obj rfl rfl rfl hl.1 rfl (Nat.le_of_ble_eq_true rfl) d_L_law_325 ⟨by show 188 + 2 * t ≤ 601024; omega, by show 12101 + 12 * t ≤ 7293033; omega⟩ (fun r1 w1 H locs hq hPd hPm hS => ?_)
  obtain ⟨hre, hrl⟩ := op_palette hr hp hq
  refine lv_icmp_eq (tgt := 1382) S.1 S.2.1 d_L_law_328 (by decide) (fun _ => ?_) (fun c_h => absurd hre c_h)
  exact W.widen (by omega) (by omega) (hNX H locs ls u o w1 hPd hPm hS hrl hl)

set_option maxRecDepth 100000 in
set_option maxHeartbeats 4000000 in
theorem lb_times {p : Program} {l : Launch} {e : Env} {s : State} {m : MethodId} {below : List Frame} {meth : Method} {c : Code} {b L : Nat} {xs : Nat → Int32} {D : va_G} {ca : Nat → ClassId} {ad adm : Nat → Nat} {H : Heap} {locs : List Loc} {t : Nat} {ls : Array Slot} {M F Q6 T1 : Nat} (hM : M = 64) (hF : F = 40) (h6 : Q6 = 6) (hT1 : T1 = 1000) (C0 : lC p l s m c b L xs D ca ad adm) (ht : 5 * t + 5 ≤ L) (hNX : lNX p l e s m below meth c b D ca ad adm t) {st : xS} {o : Nat → Int64} {w : mS} (hPd : va_P D clsAll (uw 166 ad (kG ca ad (st, o))) H) (hPm : va_P D clsAll (uw 22 adm (mG ca adm w)) H) (hS : va_S (lA s) s.heap H locs) (hr : rel st w) (hl : lv_has ls 7 (lV ad adm b t)) : lW p l e s m below meth c b H locs (188 + 2 * t) (12101 + 12 * t) 689 ls [] := by
  obtain ⟨v, π⟩ := st
  obtain ⟨n, σ, hb, ho⟩ := rel_get hr
  have C1 := C0
  obtain ⟨S, hlf, hK, hN, hTK, hNC, hap, hX, hbl, hL⟩ := C1
  have hU : ∀ w ∈ uWS, w ∈ lw_tbl := fun w h => uWS_in h
  have ht5 : t ≤ 512 := by omega
  have hJ5 : uJ 165 ad := fun i j hi hj => hap.1 i j (by omega) (by omega)
  refine lv_aload_n S.1 S.2.1 d_L_law_689 rfl (lv_at hl 3 rfl) ?_
  refine l_arg C0 hl hS 1 (by omega) (by decide) d_L_law_690 d_L_law_691 d_L_law_693 d_L_law_694 d_L_law_695 ?_
  refine l_arg C0 hl hS 2 (by omega) (by decide) d_L_law_696 d_L_law_697 d_L_law_699 d_L_law_700 d_L_law_701 ?_
  refine l_arg C0 hl hS 3 (by omega) (by decide) d_L_law_702 d_L_law_703 d_L_law_705 d_L_law_706 d_L_law_707 ?_
  refine l_arg C0 hl hS 4 (by omega) (by decide) d_L_law_708 d_L_law_709 d_L_law_711 d_L_law_712 d_L_law_713 ?_
  refine lDi (n := 4) (As := [.int (xs (5 * t + 1)), .int (xs (5 * t + 2)), .int (xs (5 * t + 3)), .int (xs (5 * t + 4))]) (rest := []) S hK hN hap hPd hPm hS (c_D_times hJ5 v π n hb.bk _ _ _ _) ⟨hU, t1_228, t1_225, t1_1, by decide +kernel, by decide, by decide⟩ t1_226 t1_227 xg_desk rfl rfl rfl hl.1 rfl (Nat.le_of_ble_eq_true rfl) d_L_law_714 ⟨by show 188 + 2 * t ≤ 601024; omega, by show 12101 + 12 * t ≤ 7293033; omega⟩ (fun r u H locs hp hPd hPm hS => ?_)
  refine lv_aload_n S.1 S.2.1 d_L_law_717 rfl (lv_at hl 2 rfl) ?_
  refine l_arg C0 hl hS 1 (by omega) (by decide) d_L_law_718 d_L_law_719 d_L_law_721 d_L_law_722 d_L_law_723 ?_
  refine l_arg C0 hl hS 2 (by omega) (by decide) d_L_law_724 d_L_law_725 d_L_law_727 d_L_law_728 d_L_law_729 ?_
  refine l_arg C0 hl hS 3 (by omega) (by decide) d_L_law_730 d_L_law_731 d_L_law_733 d_L_law_734 d_L_law_735 ?_
  refine l_arg C0 hl hS 4 (by omega) (by decide) d_L_law_736 d_L_law_737 d_L_law_739 d_L_law_740 d_L_law_741 ?_
  refine lMi (n := 4) (As := [.int (xs (5 * t + 1)), .int (xs (5 * t + 2)), .int (xs (5 * t + 3)), .int (xs (5 * t + 4))]) (rest := [.int r]) S hK hN hap hPd hPm hS (c_M_times hap.2.1 w F hF _ _ _ _) ⟨hU, t4_103, t4_100, t1_8, by decide +kernel, by decide, by decide⟩ t4_101 t4_102 mg_obj rfl rfl rfl hl.1 rfl (Nat.le_of_ble_eq_true rfl) d_L_law_742 ⟨by show 188 + 2 * t ≤ 601024; omega, by show 12101 + 12 * t ≤ 7293033; omega⟩ (fun r1 w1 H locs hq hPd hPm hS => ?_)
  obtain ⟨hre, hrl⟩ := op_times hb ho hF hp hq
  refine lv_icmp_eq (tgt := 1382) S.1 S.2.1 d_L_law_745 (by decide) (fun _ => ?_) (fun c_h => absurd hre c_h)
  exact W.widen (by omega) (by omega) (hNX H locs ls u o w1 hPd hPm hS hrl hl)

set_option maxRecDepth 100000 in
set_option maxHeartbeats 4000000 in
theorem lb_delays {p : Program} {l : Launch} {e : Env} {s : State} {m : MethodId} {below : List Frame} {meth : Method} {c : Code} {b L : Nat} {xs : Nat → Int32} {D : va_G} {ca : Nat → ClassId} {ad adm : Nat → Nat} {H : Heap} {locs : List Loc} {t : Nat} {ls : Array Slot} {M F Q6 T1 : Nat} (hM : M = 64) (hF : F = 40) (h6 : Q6 = 6) (hT1 : T1 = 1000) (C0 : lC p l s m c b L xs D ca ad adm) (ht : 5 * t + 5 ≤ L) (hNX : lNX p l e s m below meth c b D ca ad adm t) {st : xS} {o : Nat → Int64} {w : mS} (hPd : va_P D clsAll (uw 166 ad (kG ca ad (st, o))) H) (hPm : va_P D clsAll (uw 22 adm (mG ca adm w)) H) (hS : va_S (lA s) s.heap H locs) (hr : rel st w) (hl : lv_has ls 7 (lV ad adm b t)) : lW p l e s m below meth c b H locs (188 + 2 * t) (12101 + 12 * t) 750 ls [] := by
  obtain ⟨v, π⟩ := st
  obtain ⟨n, σ, hb, ho⟩ := rel_get hr
  have C1 := C0
  obtain ⟨S, hlf, hK, hN, hTK, hNC, hap, hX, hbl, hL⟩ := C1
  have hU : ∀ w ∈ uWS, w ∈ lw_tbl := fun w h => uWS_in h
  have ht5 : t ≤ 512 := by omega
  have hJ5 : uJ 165 ad := fun i j hi hj => hap.1 i j (by omega) (by omega)
  refine lv_aload_n S.1 S.2.1 d_L_law_750 rfl (lv_at hl 3 rfl) ?_
  refine l_arg C0 hl hS 1 (by omega) (by decide) d_L_law_751 d_L_law_752 d_L_law_754 d_L_law_755 d_L_law_756 ?_
  refine l_arg C0 hl hS 2 (by omega) (by decide) d_L_law_757 d_L_law_758 d_L_law_760 d_L_law_761 d_L_law_762 ?_
  refine l_arg C0 hl hS 3 (by omega) (by decide) d_L_law_763 d_L_law_764 d_L_law_766 d_L_law_767 d_L_law_768 ?_
  refine l_arg C0 hl hS 4 (by omega) (by decide) d_L_law_769 d_L_law_770 d_L_law_772 d_L_law_773 d_L_law_774 ?_
  refine lDi (n := 4) (As := [.int (xs (5 * t + 1)), .int (xs (5 * t + 2)), .int (xs (5 * t + 3)), .int (xs (5 * t + 4))]) (rest := []) S hK hN hap hPd hPm hS (c_D_delays hJ5 v π n hb.bk _ _ _ _) ⟨hU, t2_15, t2_12, t1_1, by decide +kernel, by decide, by decide⟩ t2_13 t2_14 xg_desk rfl rfl rfl hl.1 rfl (Nat.le_of_ble_eq_true rfl) d_L_law_775 ⟨by show 188 + 2 * t ≤ 601024; omega, by show 12101 + 12 * t ≤ 7293033; omega⟩ (fun r u H locs hp hPd hPm hS => ?_)
  refine lv_aload_n S.1 S.2.1 d_L_law_778 rfl (lv_at hl 2 rfl) ?_
  refine l_arg C0 hl hS 1 (by omega) (by decide) d_L_law_779 d_L_law_780 d_L_law_782 d_L_law_783 d_L_law_784 ?_
  refine l_arg C0 hl hS 2 (by omega) (by decide) d_L_law_785 d_L_law_786 d_L_law_788 d_L_law_789 d_L_law_790 ?_
  refine l_arg C0 hl hS 3 (by omega) (by decide) d_L_law_791 d_L_law_792 d_L_law_794 d_L_law_795 d_L_law_796 ?_
  refine l_arg C0 hl hS 4 (by omega) (by decide) d_L_law_797 d_L_law_798 d_L_law_800 d_L_law_801 d_L_law_802 ?_
  refine lMi (n := 4) (As := [.int (xs (5 * t + 1)), .int (xs (5 * t + 2)), .int (xs (5 * t + 3)), .int (xs (5 * t + 4))]) (rest := [.int r]) S hK hN hap hPd hPm hS (c_M_delays hap.2.1 w F hF _ _ _ _) ⟨hU, t4_110, t4_107, t1_8, by decide +kernel, by decide, by decide⟩ t4_108 t4_109 mg_obj rfl rfl rfl hl.1 rfl (Nat.le_of_ble_eq_true rfl) d_L_law_803 ⟨by show 188 + 2 * t ≤ 601024; omega, by show 12101 + 12 * t ≤ 7293033; omega⟩ (fun r1 w1 H locs hq hPd hPm hS => ?_)
  obtain ⟨hre, hrl⟩ := op_delays hb ho hF hp hq
  refine lv_icmp_eq (tgt := 1382) S.1 S.2.1 d_L_law_806 (by decide) (fun _ => ?_) (fun c_h => absurd hre c_h)
  exact W.widen (by omega) (by omega) (hNX H locs ls u o w1 hPd hPm hS hrl hl)

set_option maxRecDepth 100000 in
set_option maxHeartbeats 4000000 in
theorem lb_assign {p : Program} {l : Launch} {e : Env} {s : State} {m : MethodId} {below : List Frame} {meth : Method} {c : Code} {b L : Nat} {xs : Nat → Int32} {D : va_G} {ca : Nat → ClassId} {ad adm : Nat → Nat} {H : Heap} {locs : List Loc} {t : Nat} {ls : Array Slot} {M F Q6 T1 : Nat} (hM : M = 64) (hF : F = 40) (h6 : Q6 = 6) (hT1 : T1 = 1000) (C0 : lC p l s m c b L xs D ca ad adm) (ht : 5 * t + 5 ≤ L) (hNX : lNX p l e s m below meth c b D ca ad adm t) {st : xS} {o : Nat → Int64} {w : mS} (hPd : va_P D clsAll (uw 166 ad (kG ca ad (st, o))) H) (hPm : va_P D clsAll (uw 22 adm (mG ca adm w)) H) (hS : va_S (lA s) s.heap H locs) (hr : rel st w) (hl : lv_has ls 7 (lV ad adm b t)) : lW p l e s m below meth c b H locs (188 + 2 * t) (12101 + 12 * t) 1051 ls [] := by
  obtain ⟨v, π⟩ := st
  obtain ⟨n, σ, hb, ho⟩ := rel_get hr
  have C1 := C0
  obtain ⟨S, hlf, hK, hN, hTK, hNC, hap, hX, hbl, hL⟩ := C1
  have hU : ∀ w ∈ uWS, w ∈ lw_tbl := fun w h => uWS_in h
  have ht5 : t ≤ 512 := by omega
  have hJ5 : uJ 165 ad := fun i j hi hj => hap.1 i j (by omega) (by omega)
  refine lv_aload_n S.1 S.2.1 d_L_law_1051 rfl (lv_at hl 3 rfl) ?_
  refine l_arg C0 hl hS 1 (by omega) (by decide) d_L_law_1052 d_L_law_1053 d_L_law_1055 d_L_law_1056 d_L_law_1057 ?_
  refine l_arg C0 hl hS 2 (by omega) (by decide) d_L_law_1058 d_L_law_1059 d_L_law_1061 d_L_law_1062 d_L_law_1063 ?_
  refine lDi (n := 2) (As := [.int (xs (5 * t + 1)), .int (xs (5 * t + 2))]) (rest := []) S hK hN hap hPd hPm hS (c_D_assign hJ5 v π _ _) ⟨hU, t2_19, t2_16, t1_1, by decide +kernel, by decide, by decide⟩ t2_17 t2_18 xg_desk rfl rfl rfl hl.1 rfl (Nat.le_of_ble_eq_true rfl) d_L_law_1064 ⟨by show 188 + 2 * t ≤ 601024; omega, by show 12101 + 12 * t ≤ 7293033; omega⟩ (fun r u H locs hp hPd hPm hS => ?_)
  refine lv_aload_n S.1 S.2.1 d_L_law_1067 rfl (lv_at hl 2 rfl) ?_
  refine l_arg C0 hl hS 1 (by omega) (by decide) d_L_law_1068 d_L_law_1069 d_L_law_1071 d_L_law_1072 d_L_law_1073 ?_
  refine l_arg C0 hl hS 2 (by omega) (by decide) d_L_law_1074 d_L_law_1075 d_L_law_1077 d_L_law_1078 d_L_law_1079 ?_
  refine lMi (n := 2) (As := [.int (xs (5 * t + 1)), .int (xs (5 * t + 2))]) (rest := [.int r]) S hK hN hap hPd hPm hS (c_M_assign hap.2.1 w _ _) ⟨hU, t4_134, t4_131, t1_8, by decide +kernel, by decide, by decide⟩ t4_132 t4_133 mg_obj rfl rfl rfl hl.1 rfl (Nat.le_of_ble_eq_true rfl) d_L_law_1080 ⟨by show 188 + 2 * t ≤ 601024; omega, by show 12101 + 12 * t ≤ 7293033; omega⟩ (fun r1 w1 H locs hq hPd hPm hS => ?_)
  obtain ⟨hre, hrl⟩ := op_assign hr hp hq
  refine lv_icmp_eq (tgt := 1382) S.1 S.2.1 d_L_law_1083 (by decide) (fun _ => ?_) (fun c_h => absurd hre c_h)
  exact W.widen (by omega) (by omega) (hNX H locs ls u o w1 hPd hPm hS hrl hl)

set_option maxRecDepth 100000 in
set_option maxHeartbeats 4000000 in
theorem lb_master {p : Program} {l : Launch} {e : Env} {s : State} {m : MethodId} {below : List Frame} {meth : Method} {c : Code} {b L : Nat} {xs : Nat → Int32} {D : va_G} {ca : Nat → ClassId} {ad adm : Nat → Nat} {H : Heap} {locs : List Loc} {t : Nat} {ls : Array Slot} {M F Q6 T1 : Nat} (hM : M = 64) (hF : F = 40) (h6 : Q6 = 6) (hT1 : T1 = 1000) (C0 : lC p l s m c b L xs D ca ad adm) (ht : 5 * t + 5 ≤ L) (hNX : lNX p l e s m below meth c b D ca ad adm t) {st : xS} {o : Nat → Int64} {w : mS} (hPd : va_P D clsAll (uw 166 ad (kG ca ad (st, o))) H) (hPm : va_P D clsAll (uw 22 adm (mG ca adm w)) H) (hS : va_S (lA s) s.heap H locs) (hr : rel st w) (hl : lv_has ls 7 (lV ad adm b t)) : lW p l e s m below meth c b H locs (188 + 2 * t) (12101 + 12 * t) 1184 ls [] := by
  obtain ⟨v, π⟩ := st
  obtain ⟨n, σ, hb, ho⟩ := rel_get hr
  have C1 := C0
  obtain ⟨S, hlf, hK, hN, hTK, hNC, hap, hX, hbl, hL⟩ := C1
  have hU : ∀ w ∈ uWS, w ∈ lw_tbl := fun w h => uWS_in h
  have ht5 : t ≤ 512 := by omega
  have hJ5 : uJ 165 ad := fun i j hi hj => hap.1 i j (by omega) (by omega)
  refine lv_aload_n S.1 S.2.1 d_L_law_1184 rfl (lv_at hl 3 rfl) ?_
  refine l_arg C0 hl hS 1 (by omega) (by decide) d_L_law_1185 d_L_law_1186 d_L_law_1188 d_L_law_1189 d_L_law_1190 ?_
  refine l_arg C0 hl hS 2 (by omega) (by decide) d_L_law_1191 d_L_law_1192 d_L_law_1194 d_L_law_1195 d_L_law_1196 ?_
  refine lDi (n := 2) (As := [.int (xs (5 * t + 1)), .int (xs (5 * t + 2))]) (rest := []) S hK hN hap hPd hPm hS (c_D_master hJ5 v π _ _) ⟨hU, t2_29, t2_26, t1_1, by decide +kernel, by decide, by decide⟩ t2_27 t2_28 xg_desk rfl rfl rfl hl.1 rfl (Nat.le_of_ble_eq_true rfl) d_L_law_1197 ⟨by show 188 + 2 * t ≤ 601024; omega, by show 12101 + 12 * t ≤ 7293033; omega⟩ (fun r u H locs hp hPd hPm hS => ?_)
  refine lv_aload_n S.1 S.2.1 d_L_law_1200 rfl (lv_at hl 2 rfl) ?_
  refine l_arg C0 hl hS 1 (by omega) (by decide) d_L_law_1201 d_L_law_1202 d_L_law_1204 d_L_law_1205 d_L_law_1206 ?_
  refine l_arg C0 hl hS 2 (by omega) (by decide) d_L_law_1207 d_L_law_1208 d_L_law_1210 d_L_law_1211 d_L_law_1212 ?_
  refine lMi (n := 2) (As := [.int (xs (5 * t + 1)), .int (xs (5 * t + 2))]) (rest := [.int r]) S hK hN hap hPd hPm hS (c_M_master hap.2.1 w _ _) ⟨hU, t4_162, t4_159, t1_8, by decide +kernel, by decide, by decide⟩ t4_160 t4_161 mg_obj rfl rfl rfl hl.1 rfl (Nat.le_of_ble_eq_true rfl) d_L_law_1213 ⟨by show 188 + 2 * t ≤ 601024; omega, by show 12101 + 12 * t ≤ 7293033; omega⟩ (fun r1 w1 H locs hq hPd hPm hS => ?_)
  obtain ⟨hre, hrl⟩ := op_master hr hp hq
  refine lv_icmp_eq (tgt := 1382) S.1 S.2.1 d_L_law_1216 (by decide) (fun _ => ?_) (fun c_h => absurd hre c_h)
  exact W.widen (by omega) (by omega) (hNX H locs ls u o w1 hPd hPm hS hrl hl)

set_option maxRecDepth 100000 in
set_option maxHeartbeats 4000000 in
theorem lb_count {p : Program} {l : Launch} {e : Env} {s : State} {m : MethodId} {below : List Frame} {meth : Method} {c : Code} {b L : Nat} {xs : Nat → Int32} {D : va_G} {ca : Nat → ClassId} {ad adm : Nat → Nat} {H : Heap} {locs : List Loc} {t : Nat} {ls : Array Slot} {M F Q6 T1 : Nat} (hM : M = 64) (hF : F = 40) (h6 : Q6 = 6) (hT1 : T1 = 1000) (C0 : lC p l s m c b L xs D ca ad adm) (ht : 5 * t + 5 ≤ L) (hNX : lNX p l e s m below meth c b D ca ad adm t) {st : xS} {o : Nat → Int64} {w : mS} (hPd : va_P D clsAll (uw 166 ad (kG ca ad (st, o))) H) (hPm : va_P D clsAll (uw 22 adm (mG ca adm w)) H) (hS : va_S (lA s) s.heap H locs) (hr : rel st w) (hl : lv_has ls 7 (lV ad adm b t)) : lW p l e s m below meth c b H locs (188 + 2 * t) (12101 + 12 * t) 1357 ls [] := by
  obtain ⟨v, π⟩ := st
  obtain ⟨n, σ, hb, ho⟩ := rel_get hr
  have C1 := C0
  obtain ⟨S, hlf, hK, hN, hTK, hNC, hap, hX, hbl, hL⟩ := C1
  have hU : ∀ w ∈ uWS, w ∈ lw_tbl := fun w h => uWS_in h
  have ht5 : t ≤ 512 := by omega
  have hJ5 : uJ 165 ad := fun i j hi hj => hap.1 i j (by omega) (by omega)
  refine lv_aload_n S.1 S.2.1 d_L_law_1357 rfl (lv_at hl 3 rfl) ?_
  refine l_arg C0 hl hS 1 (by omega) (by decide) d_L_law_1358 d_L_law_1359 d_L_law_1361 d_L_law_1362 d_L_law_1363 ?_
  refine lDi (n := 1) (As := [.int (xs (5 * t + 1))]) (rest := []) S hK hN hap hPd hPm hS (c_D_count hJ5 v π n hb.bk _) ⟨hU, t2_33, t2_30, t1_1, by decide +kernel, by decide, by decide⟩ t2_31 t2_32 xg_desk rfl rfl rfl hl.1 rfl (Nat.le_of_ble_eq_true rfl) d_L_law_1364 ⟨by show 188 + 2 * t ≤ 601024; omega, by show 12101 + 12 * t ≤ 7293033; omega⟩ (fun r u H locs hp hPd hPm hS => ?_)
  refine lv_aload_n S.1 S.2.1 d_L_law_1367 rfl (lv_at hl 2 rfl) ?_
  refine l_arg C0 hl hS 1 (by omega) (by decide) d_L_law_1368 d_L_law_1369 d_L_law_1371 d_L_law_1372 d_L_law_1373 ?_
  refine lMi (n := 1) (As := [.int (xs (5 * t + 1))]) (rest := [.int r]) S hK hN hap hPd hPm hS (c_M_count hap.2.1 w M hM F hF _) ⟨hU, t4_178, t4_175, t1_8, by decide +kernel, by decide, by decide⟩ t4_176 t4_177 mg_obj rfl rfl rfl hl.1 rfl (Nat.le_of_ble_eq_true rfl) d_L_law_1374 ⟨by show 188 + 2 * t ≤ 601024; omega, by show 12101 + 12 * t ≤ 7293033; omega⟩ (fun r1 w1 H locs hq hPd hPm hS => ?_)
  obtain ⟨hre, hrl⟩ := op_count hb ho hF hM hp hq
  refine lv_icmp_eq (tgt := 1382) S.1 S.2.1 d_L_law_1377 (by decide) (fun _ => ?_) (fun c_h => absurd hre c_h)
  exact W.widen (by omega) (by omega) (hNX H locs ls u o w1 hPd hPm hS hrl hl)

