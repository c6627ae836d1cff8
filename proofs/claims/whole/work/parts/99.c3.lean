/-! THE LAW'S CALLS: the desk with the long array (166 cells), and the model (22 cells), side by side -/
abbrev lA (s : State) : Nat → Prop := fun q => s.heap.size ≤ q
/-- the two worlds lie apart, and are new -/
def lAp (s : State) (ad adm : Nat → Nat) : Prop := uJ 166 ad ∧ uJ 22 adm ∧ (∀ i j, i < 166 → j < 22 → ad i ≠ adm j) ∧ (∀ i, i < 166 → s.heap.size ≤ ad i) ∧ ∀ j, j < 22 → s.heap.size ≤ adm j
section LC
variable {p : Program} {l : Launch} {e : Env} {R : Room} {s : State} {m : MethodId} {args : Array Value} {below : List Frame} {meth : Method} {c : Code} {H : Heap} {locs : List Loc} {cells slots : Nat} {Q : State → Prop}
variable {cc : ByteArray} {pc nL : Nat} {ls : Array Slot} {rest : List Value} {D : va_G} {cl : List vw_C} {tys : List (ClassId × FieldType)} {Ts : List Cond} {own C : String} {ca : Nat → ClassId} {ad adm : Nat → Nat} {st : xS} {o0 : Nat → Int64} {w : mS}
variable {y : MethodName} {bytes : ByteArray} {maxL fr lo mc ms n index : Nat} {ret : Option FieldType} {As : List Value}
/-- a method of the desk that returns an int -/
theorem lDi {post : Int32 → xS → Prop} (S : CallFix p m c cc nL s args Ts own) (hK : va_K D cl tys s) (hN : ∀ w ∈ uNW, va_Nw w s) (hap : lAp s ad adm) (hPd : va_P D cl (uw 166 ad (kG ca ad (st, o0))) H) (hPm : va_P D cl (uw 22 adm (mG ca adm w)) H) (hS : va_S (lA s) s.heap H locs) (hM : uMi l y bytes maxL ret fr lo D cl tys 165 ad (xG ca ad) st (.ref (ad 0) :: As) post) (hcw : uCW Ts own index y bytes maxL ret n fr lo R) (hI : Cond.instanceMethod y ∈ uWS) (hX : Cond.selects C y y ∈ uWS) {ci : Nat} {q : vw_C} {fs : List Value} (hg : xG ca ad st 0 = .inr (ci, fs)) (hq : cl[ci]? = some q) (hqC : q.1 = C) (hn : As.length = n) (hls : ls.size = nL) {st0 : List Value} (hst : st0 = As.reverse ++ .ref (ad 0) :: rest) (hW : (rest.map fun v => v.category).sum ≤ 8) (hdg : decode cc pc = .ok (.invokevirtual index, 3)) (hc : cells ≤ R.cells ∧ slots ≤ R.slots)
    (kk : ∀ (r : Int32) (u : xS) (H1 : Heap) (locs1 : List Loc), post r u → va_P D cl (uw 166 ad (kG ca ad (u, o0))) H1 → va_P D cl (uw 22 adm (mG ca adm w)) H1 → va_S (lA s) s.heap H1 locs1 → W p l e R s m args below meth c H1 locs1 cells slots Q (F0 m (pc + 3) ls (.int r :: rest))) : W p l e R s m args below meth c H locs cells slots Q (F0 m pc ls st0) := by
  subst hqC
  obtain ⟨hJ, hJm, hne, ha1, ha2⟩ := hap
  have hA : ∀ q, uA 165 ad H.size q → lA s q := by
    rintro q (⟨k, hk, h⟩ | h)
    · rw [h]; exact ha1 k (by omega)
    · exact Nat.le_trans hS.1 h
  have hPd5 : va_P D cl (uw 165 ad (xG ca ad st)) H := k_sub (st := (st, o0)) hPd
  refine va_calli (uRunV S hcw hI hX (hM H.size) ⟨uB_blind, va_recv hK hPd5 hq (uw_at (by omega) hg), uB_at hPd5 hK hN⟩ hn hls hst hW hdg hc) hS (fun q _ h => hA q h) hA (fun r u t H1 locs1 ht _ hp hB _ hk hS1 => ?_)
  have h9 : va_P D cl (uw 165 ad (xG ca ad u)) t.heap := hB
  rw [ht] at h9
  refine kk r u H1 locs1 hp (k_join hPd h9 (hk _ (k_out hJ hPd).1 (k_out hJ hPd).2)) (uP_kept hPm (fun j hj => hk _ (uP_lt hPm hj) ?_)) hS1
  rintro (⟨k, hk, h⟩ | h)
  · exact hne k j (by omega) hj h.symm
  · exact absurd (uP_lt hPm hj) (Nat.not_lt.mpr h)
/-- a method of the model that returns an int -/
theorem lMi {post : Int32 → mS → Prop} (S : CallFix p m c cc nL s args Ts own) (hK : va_K D cl tys s) (hN : ∀ w ∈ uNW, va_Nw w s) (hap : lAp s ad adm) (hPd : va_P D cl (uw 166 ad (kG ca ad (st, o0))) H) (hPm : va_P D cl (uw 22 adm (mG ca adm w)) H) (hS : va_S (lA s) s.heap H locs) (hM : uMi l y bytes maxL ret fr lo D cl tys 22 adm (mG ca adm) w (.ref (adm 0) :: As) post) (hcw : uCW Ts own index y bytes maxL ret n fr lo R) (hI : Cond.instanceMethod y ∈ uWS) (hX : Cond.selects C y y ∈ uWS) {ci : Nat} {q : vw_C} {fs : List Value} (hg : mG ca adm w 0 = .inr (ci, fs)) (hq : cl[ci]? = some q) (hqC : q.1 = C) (hn : As.length = n) (hls : ls.size = nL) {st0 : List Value} (hst : st0 = As.reverse ++ .ref (adm 0) :: rest) (hW : (rest.map fun v => v.category).sum ≤ 8) (hdg : decode cc pc = .ok (.invokevirtual index, 3)) (hc : cells ≤ R.cells ∧ slots ≤ R.slots)
    (kk : ∀ (r : Int32) (u : mS) (H1 : Heap) (locs1 : List Loc), post r u → va_P D cl (uw 166 ad (kG ca ad (st, o0))) H1 → va_P D cl (uw 22 adm (mG ca adm u)) H1 → va_S (lA s) s.heap H1 locs1 → W p l e R s m args below meth c H1 locs1 cells slots Q (F0 m (pc + 3) ls (.int r :: rest))) : W p l e R s m args below meth c H locs cells slots Q (F0 m pc ls st0) := by
  subst hqC
  obtain ⟨hJ, hJm, hne, ha1, ha2⟩ := hap
  have hA : ∀ q, uA 22 adm H.size q → lA s q := by
    rintro q (⟨k, hk, h⟩ | h)
    · rw [h]; exact ha2 k hk
    · exact Nat.le_trans hS.1 h
  refine va_calli (uRunV S hcw hI hX (hM H.size) ⟨uB_blind, va_recv hK hPm hq (uw_at (by decide) hg), uB_at hPm hK hN⟩ hn hls hst hW hdg hc) hS (fun q _ h => hA q h) hA (fun r u t H1 locs1 ht _ hp hB _ hk hS1 => ?_)
  have h9 : va_P D cl (uw 22 adm (mG ca adm u)) t.heap := hB
  rw [ht] at h9
  refine kk r u H1 locs1 hp (uP_kept hPd (fun j hj => hk _ (uP_lt hPd hj) ?_)) h9 hS1
  rintro (⟨k, hk, h⟩ | h)
  · exact hne j k hj hk h
  · exact absurd (uP_lt hPd hj) (Nat.not_lt.mpr h)
/-- the law's own method -/
theorem lSi {hs : List (Nat × Nat × Nat × Nat)} {post : Int32 → kS → Prop} (S : CallFix p m c cc nL s args Ts own) (hK : va_K D cl tys s) (hN : ∀ w ∈ uNW, va_Nw w s) (hTK : tK s) (hNC : kNC s) (hap : lAp s ad adm) (hPd : va_P D cl (uw 166 ad (kG ca ad (st, o0))) H) (hPm : va_P D cl (uw 22 adm (mG ca adm w)) H) (hS : va_S (lA s) s.heap H locs) (hM : kMi l y bytes maxL hs fr lo mc ms D cl tys ca ad (st, o0) As post) (hU : ∀ w ∈ uWS, w ∈ Ts) (hcode : Cond.codeWith y bytes maxL (some .int) hs ∈ uWS) (hlink : Cond.methodLink own index y ∈ uWS) (hini : Cond.initialized y.cls ∈ uWS) (hst1 : Cond.static y ∈ uWS) (hsig : y.cls ≠ "java/lang/invoke/MethodHandle" ∧ y.cls ≠ "java/lang/invoke/VarHandle" ∧ (parseMethodDescriptor y.desc).map (fun d => d.parameters.length) = some n) (hfr : fr + 1 ≤ R.frames) (hlo : 8 + (maxL + 11) + lo ≤ R.locals) (hn : As.length = n) (hls : ls.size = nL) {st0 : List Value} (hst : st0 = As.reverse ++ rest) (hW : (rest.map fun v => v.category).sum ≤ 8) (hdg : decode cc pc = .ok (.invokestatic index, 3)) (hc : cells + mc ≤ R.cells) (hs0 : slots + ms ≤ R.slots)
    (kk : ∀ (r : Int32) (u : kS) (H1 : Heap) (locs1 : List Loc), post r u → va_P D cl (uw 166 ad (kG ca ad u)) H1 → va_P D cl (uw 22 adm (mG ca adm w)) H1 → va_S (lA s) s.heap H1 locs1 → W p l e R s m args below meth c H1 locs1 (cells + mc) (slots + ms) Q (F0 m (pc + 3) ls (.int r :: rest))) : W p l e R s m args below meth c H locs cells slots Q (F0 m pc ls st0) := by
  obtain ⟨hJ, hJm, hne, ha1, ha2⟩ := hap
  intro T hT X
  obtain ⟨hy1, hy2, hlen⟩ := hsig
  obtain ⟨hx, hbb, hml, ho, hts⟩ := S
  obtain ⟨mk, methM, cM, hnamed, hmethM, hcM, -, hlM, -, -, -, hsigM⟩ := Cond.codeWith_spec (hts _ (hU _ hcode))
  have hstM := Cond.static_spec hnamed hmethM (hts _ (hU _ hst1))
  obtain ⟨kP, hkP, -⟩ := className_of_methodNamed hnamed
  have hkPi : kP.init = .initialized := Cond.initialized_spec (findClass_of_methodNamed hnamed) hkP (hts _ (hU _ hini))
  obtain ⟨vm₁, X₁, hstep₁⟩ := X.invokestatic hx ho (hts _ (hU _ hlink)) hnamed hmethM hstM hkP hkPi ⟨hy1, hy2⟩ (g := F0 m pc ls st0) rfl (argsL := As) (rest := rest) (by rw [hn]; rw [hsigM] at hlen; exact (Option.some.inj hlen).symm) hst (by rw [hbb]; exact hdg)
  have hgood : GoodIn Ts (Cond.codeWith y bytes maxL (some .int) hs :: uWS) := by
    intro w hw
    rcases List.mem_cons.mp hw with rfl | hw
    · exact ⟨hU _ hcode, uWS_good hcode⟩
    · exact ⟨hU w hw, uWS_good hw⟩
  have hpre : ∀ (f1 : JFrame) (mk : MethodId), va_Pc As (kB D cl tys ad (kG ca ad (st, o0)) H.size) As.toArray ((T.setVm vm₁).calling f1 mk As.toArray) := by
    intro f1 mk
    obtain ⟨q0, q1, qP, qK, qN⟩ := uB_blind _ (T.setVm vm₁) f1 mk (uB_at (av := As) hPd hK hN (T.setVm vm₁) hT X₁.warmed)
    refine ⟨q0, ⟨⟨q1, qP, qK, qN⟩, ?_⟩, kNC_moved (U := (T.setVm vm₁).calling f1 mk As.toArray) X₁.warmed hNC⟩
    refine tK_moved (U := s) (V := (T.setVm vm₁).calling f1 mk As.toArray) X₁.warmed (fun q cell h1 h2 => ?_) hTK
    show (T.setVm vm₁).heap[q]? = some cell
    have hq := (Array.getElem?_eq_some_iff.mp h1).1
    rw [show (T.setVm vm₁).heap = H from hT, hS.2.1 q hq (Nat.not_le.mpr hq), h1]
  obtain ⟨o, s₂, h1, hend, ⟨hqa, hz, hk⟩, L, hE, hL⟩ := tRun (hM H.size) X₁ (g := F0 m pc ls rest) rfl (hls.trans hml.symm) (by rw [hbb]; exact hdg) (a := As.toArray) (X₁.named hnamed) (by rw [X₁.warmed.alike.method?]; exact hmethM) hcM
    (word_at (U := T.setVm vm₁) X₁.warmed (uWS_good hini) (hts _ (hU _ hini))) (fun w hw => word_at (U := T.setVm vm₁) X₁.warmed (hgood w hw).2 (hts _ (hgood w hw).1)) hfr
    (by rw [hlM]; have h8 := lv_room (m := m) (pc := pc) (ls := ls) (rest := rest) hW; show 2 * (F0 m pc ls rest).monitorRoom + (List.map (fun v => v.category) rest).sum + (maxL + 11) + lo ≤ R.locals; omega) hc hs0 (hpre _ _)
  have hU1 : (T.setVm vm₁).heap = H := hT
  have hz' : H.size ≤ s₂.heap.size := by rw [← hU1]; exact hz
  have hk' : ∀ q : Nat, q < H.size → ¬ uA 166 ad H.size q → s₂.heap[q]? = H[q]? := fun q h1 h2 => by rw [← hU1]; exact hk q (by show q < (T.setVm vm₁).heap.size; rw [hU1]; exact h1) h2
  have hA : ∀ q, uA 166 ad H.size q → lA s q := by
    rintro q (⟨k, hk, h⟩ | h)
    · rw [h]; exact ha1 k hk
    · exact Nat.le_trans hS.1 h
  have hS1 : va_S (lA s) s.heap s₂.heap (locs ++ L) :=
    ⟨Nat.le_trans hS.1 hz', fun q h1 h2 => by rw [hk' q (Nat.lt_of_lt_of_le h1 hS.1) (fun z => h2 (hA q z))]; exact hS.2.1 q h1 h2, fun q hq => by
      rcases List.mem_append.mp hq with h | h
      · exact hS.2.2 q h
      · exact hA _ (hL q h)⟩
  rcases hqa with ⟨r, u, rfl, hp, hTt⟩ | ⟨x, X1, u, cell, rfl, hp, -⟩
  · obtain ⟨T', X', hW', -, hs2⟩ := X₁.outOf (g := F0 m pc ls rest) rfl (by rw [hbb]; exact hdg) hend hE.1 hE.2
    have hh : T'.heap = s₂.heap := by rw [hs2]; rfl
    have hTt : va_P D cl (uw 166 ad (kG ca ad u)) s₂.heap := hTt
    obtain ⟨t, a1, b1⟩ := kk r u T'.heap (locs ++ L) hp (by rw [hh]; exact hTt) (by
      rw [hh]
      refine uP_kept hPm (fun j hj => hk' _ (uP_lt hPm hj) ?_)
      rintro (⟨k, hk, h⟩ | h)
      · exact hne k j hk hj h.symm
      · exact absurd (uP_lt hPm hj) (Nat.not_lt.mpr h)) (by rw [hh]; exact hS1) T' rfl X'
    exact ⟨t, hstep₁ _ (fun acts => by rw [doInvoke_state]; exact h1.trans (by rw [hs2]; exact a1)), b1⟩
  · exact hp.elim
/-- out[0] -/
theorem l_out (S : CallFix p m c cc nL s args Ts own) (hK : va_K D cl (tysAll ca) s) (hPd : va_P D cl (uw 166 ad (kG ca ad (st, o0))) H) (hdg : decode cc pc = .ok (.laload, 1))
    (kk : W p l e R s m args below meth c H locs cells slots Q (F0 m (pc + 1) ls (.long (o0 0) :: rest))) : W p l e R s m args below meth c H locs cells slots Q (F0 m pc ls (.int 0 :: .ref (ad 165) :: rest)) :=
  va_lald S.1 S.2.1 hK hPd 165 5 (uw_at (by decide) kg_out) rfl (vp_in_nI (show 0 < 1 by decide) (by decide)) hdg kk
end LC
