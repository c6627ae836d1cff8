/-! THE LAW'S BODY -/
abbrev lW (p : Program) (l : Launch) (e : Env) (s : State) (m : MethodId) (below : List Frame) (meth : Method) (c : Code) (b : Nat) (H : Heap) (locs : List Loc) (cells slots pc : Nat) (ls : Array Slot) (stk : List Value) : Prop :=
  W p l e room_1 s m #[Value.ref b] below meth c H locs cells slots (lw_Z below #[Value.ref b] s) (F0 m pc ls stk)
def lC (p : Program) (l : Launch) (s : State) (m : MethodId) (c : Code) (b L : Nat) (xs : Nat → Int32) (D : va_G) (ca : Nat → ClassId) (ad adm : Nat → Nat) : Prop :=
  CallFix p m c code 7 s #[Value.ref b] lw_tbl "LightingDeskLaw" ∧ l.flags = pinnedFlags ++ [noTraceFlag] ∧ va_K D clsAll (tysAll ca) s ∧ (∀ w ∈ uNW, va_Nw w s) ∧ tK s ∧ kNC s ∧ lAp s ad adm ∧ va_X b L xs s s.heap ∧ b < s.heap.size ∧ L ≤ 2560
/-- the law's locals -/
abbrev lV (ad adm : Nat → Nat) (b t : Nat) : List (Nat × Value) := [(4, .int (nI (5 * t))), (3, .ref (ad 165)), (2, .ref (adm 0)), (1, .ref (ad 0)), (0, .ref b)]
def lNX (p : Program) (l : Launch) (e : Env) (s : State) (m : MethodId) (below : List Frame) (meth : Method) (c : Code) (b : Nat) (D : va_G) (ca : Nat → ClassId) (ad adm : Nat → Nat) (t : Nat) : Prop :=
  ∀ (H : Heap) (locs : List Loc) (ls : Array Slot) (st : xS) (o : Nat → Int64) (w : mS), va_P D clsAll (uw 166 ad (kG ca ad (st, o))) H → va_P D clsAll (uw 22 adm (mG ca adm w)) H → va_S (lA s) s.heap H locs → rel st w → lv_has ls 7 (lV ad adm b t) → lW p l e s m below meth c b H locs (188 + 2 * t + 2) (12101 + 12 * t + 12) 1382 ls []
def bz (x : Int32) : Int32 := if x = 0 then 0 else 1
theorem bz_nar (x : Int32) : vp_nar .boolean (bz x) = bz x := by
  unfold bz
  split <;> decide
section LW
variable {p : Program} {l : Launch} {e : Env} {s : State} {m : MethodId} {below : List Frame} {meth : Method} {c : Code} {b L : Nat} {xs : Nat → Int32} {D : va_G} {ca : Nat → ClassId} {ad adm : Nat → Nat} {H : Heap} {locs : List Loc} {cells slots pc t : Nat} {ls : Array Slot} {stk : List Value}
/-- script[i + k] -/
theorem l_arg (C0 : lC p l s m c b L xs D ca ad adm) (hl : lv_has ls 7 (lV ad adm b t)) (hS : va_S (lA s) s.heap H locs) (k : Nat) (hk : 5 * t + k < L) {z : Int} (hz : Int32.ofInt z = nI k) (h1 : decode code pc = .ok (.aload_n 0, 1)) (h2 : decode code (pc + 1) = .ok (.iload 4, 2)) (h3 : decode code (pc + 3) = .ok (.iconst z, 1)) (h4 : decode code (pc + 4) = .ok (.iadd, 1)) (h5 : decode code (pc + 5) = .ok (.iaload, 1))
    (kk : lW p l e s m below meth c b H locs cells slots (pc + 6) ls (.int (xs (5 * t + k)) :: stk)) : lW p l e s m below meth c b H locs cells slots pc ls stk := by
  obtain ⟨S, -, -, -, -, -, -, hX, hbl, hL⟩ := C0
  refine lv_aload_n S.1 S.2.1 h1 rfl (lv_at hl 4 rfl) ?_
  refine lv_iload S.1 S.2.1 h2 (lv_at hl 0 rfl) ?_
  refine lv_iconst S.1 S.2.1 h3 hz ?_
  refine lv_iadd S.1 S.2.1 h4 ?_
  rw [nI_add]
  refine va_sld S.1 S.2.1 hX hbl (Nat.not_le.mpr hbl) hS (vp_in_nI hk (by omega)) h5 ?_
  rw [nI_clamp (by omega)]
  exact kk
/-- .. != 0 -/
theorem l_bool (C0 : lC p l s m c b L xs D ca ad adm) {x : Int32} (p0 : Nat) (h1 : decode code pc = .ok (.ifCond .eq 7, 3)) (h2 : decode code (pc + 3) = .ok (.iconst 1, 1)) (h3 : decode code (pc + 4) = .ok (.goto 4, 3)) (h4 : decode code p0 = .ok (.iconst 0, 1)) (hp : pc + 7 = p0)
    (kk : lW p l e s m below meth c b H locs cells slots (pc + 8) ls (.int (bz x) :: stk)) : lW p l e s m below meth c b H locs cells slots pc ls (.int x :: stk) := by
  obtain ⟨S, -⟩ := C0
  subst hp
  refine lv_if_eq (tgt := pc + 7) S.1 S.2.1 h1 (by omega) (fun h => ?_) (fun h => ?_)
  · refine lv_iconst (v := 0) S.1 S.2.1 h4 (by decide) ?_
    have : bz x = 0 := by simp [bz, h]
    rw [this] at kk
    exact kk
  · refine lv_iconst (v := 1) S.1 S.2.1 h2 (by decide) ?_
    refine lv_goto (tgt := pc + 8) S.1 S.2.1 h3 (by omega) ?_
    have : bz x = 1 := by simp [bz, h]
    rw [this] at kk
    exact kk
theorem lg_same {x y : Int64} (h : x = y) : lg_cmp x y = 0 := by
  subst h
  have h1 : ¬ x > x := by
    intro z
    exact absurd z (by simp [Int64.lt_irrefl])
  simp [lg_cmp, h1]
/-- the end of a block that compares what was thrown, and answers -/
theorem l_tail (C0 : lC p l s m c b L xs D ca ad adm) (hNX : lNX p l e s m below meth c b D ca ad adm t) {z : kS} {z' : mS} {k r' : Int32} (hPd : va_P D clsAll (uw 166 ad (kG ca ad z)) H) (hPm : va_P D clsAll (uw 22 adm (mG ca adm z')) H) (hS : va_S (lA s) s.heap H locs) (hf : z' 0 0 = k ∧ (k = 0 → z.2 0 = r'.toInt64) ∧ rel z.1 z') (hl : lv_has ls 7 ([(6, .int r'), (5, .int k)] ++ lV ad adm b t)) (hc : cells ≤ 188 + 2 * t + 2) (hs : slots ≤ 12101 + 12 * t + 12) (ht : t ≤ 512)
    (h1 : decode code pc = .ok (.aload_n 2, 1)) (h2 : decode code (pc + 1) = .ok (.invokevirtual 85, 3)) (h3 : decode code (pc + 4) = .ok (.iload 5, 2)) (h4 : decode code (pc + 6) = .ok (.if_icmp .eq 5, 3)) (h5 : decode code (pc + 11) = .ok (.iload 5, 2)) (h6 : decode code (pc + 13) = .ok (.ifCond .ne 15, 3)) (h7 : decode code (pc + 16) = .ok (.aload_n 3, 1)) (h8 : decode code (pc + 17) = .ok (.iconst 0, 1)) (h9 : decode code (pc + 18) = .ok (.laload, 1)) (h10 : decode code (pc + 19) = .ok (.iload 6, 2)) (h11 : decode code (pc + 21) = .ok (.i2l, 1)) (h12 : decode code (pc + 22) = .ok (.lcmp, 1)) (h13 : decode code (pc + 23) = .ok (.ifCond .eq 5, 3)) {off : Int} (h14 : decode code (pc + 28) = .ok (.goto off, 3)) (ho : ((pc + 28 : Nat) : Int) + off = ((1382 : Nat) : Int)) :
    lW p l e s m below meth c b H locs cells slots pc ls [] := by
  have hend : ∀ (H : Heap) (locs : List Loc) (ls : Array Slot), va_P D clsAll (uw 166 ad (kG ca ad z)) H → va_P D clsAll (uw 22 adm (mG ca adm z')) H → va_S (lA s) s.heap H locs → lv_has ls 7 ([(6, .int r'), (5, .int k)] ++ lV ad adm b t) → lW p l e s m below meth c b H locs cells slots (pc + 28) ls [] := by
    intro H locs ls hPd hPm hS hl
    refine lv_goto (tgt := 1382) C0.1.1 C0.1.2.1 h14 ho ?_
    exact W.widen hc hs (hNX H locs ls z.1 z.2 z' hPd hPm hS hf.2.2 (lv_sub hl [2, 3, 4, 5, 6] rfl))
  obtain ⟨S, hlf, hK, hN, hTK, hNC, hap, hX, hbl, hL⟩ := C0
  have hU : ∀ w ∈ uWS, w ∈ lw_tbl := fun w h => uWS_in h
  refine lv_aload_n S.1 S.2.1 h1 rfl (lv_at hl 4 rfl) ?_
  refine lMi (n := 0) (As := []) (rest := []) S hK hN hap hPd hPm hS (c_M_thrown hap.2.1 z') ⟨hU, t3_237, t3_234, t1_8, by decide +kernel, by decide, by decide⟩ t3_235 t3_236 mg_obj rfl rfl rfl hl.1 rfl (Nat.le_of_ble_eq_true rfl) h2 ⟨by show cells ≤ 601024; omega, by show slots ≤ 7293033; omega⟩ (fun r u H locs hp hPd hPm hS => ?_)
  obtain ⟨hu, rfl⟩ := hp
  rw [hu] at hPm
  refine lv_iload S.1 S.2.1 h3 (lv_at hl 1 rfl) ?_
  refine lv_icmp_eq (tgt := pc + 11) S.1 S.2.1 h4 (by omega) (fun _ => ?_) (fun c_h => absurd hf.1 c_h)
  refine lv_iload S.1 S.2.1 h5 (lv_at hl 1 rfl) ?_
  refine lv_if_ne (tgt := pc + 28) S.1 S.2.1 h6 (by omega) (fun _ => hend H locs ls hPd hPm hS hl) (fun c_k => ?_)
  have hk0 : k = 0 := c_k
  refine lv_aload_n S.1 S.2.1 h7 rfl (lv_at hl 3 rfl) ?_
  refine lv_iconst (v := 0) S.1 S.2.1 h8 (by decide) ?_
  refine l_out (st := z.1) (o0 := z.2) S hK hPd h9 ?_
  refine lv_iload S.1 S.2.1 h10 (lv_at hl 0 rfl) ?_
  refine lv_i2l S.1 S.2.1 h11 rfl ?_
  refine W.lcmp S.1 S.2.1 h12 ?_
  rw [lg_same (hf.2.1 hk0)]
  exact lv_if_eq (tgt := pc + 28) S.1 S.2.1 h13 (by omega) (fun _ => hend H locs ls hPd hPm hS hl) (fun c_h => absurd rfl c_h)
end LW
