/-! THE LAW'S OWN METHODS: the desk's world and the long array, 166 cells -/
abbrev kS : Type := xS × (Nat → Int64)
def kG (ca : Nat → ClassId) (ad : Nat → Nat) (st : kS) (k : Nat) : va_E := if k = 165 then .inl (ca 5, 1, .inr (.inl st.2)) else xG ca ad st.1 k
theorem kg_out {ca : Nat → ClassId} {ad : Nat → Nat} {st : kS} : kG ca ad st 165 = .inl (ca 5, 1, .inr (.inl st.2)) := rfl
theorem kg_desk {ca : Nat → ClassId} {ad : Nat → Nat} {st : kS} {k : Nat} (h : k < 165) : kG ca ad st k = xG ca ad st.1 k := by
  unfold kG; rw [if_neg (by omega)]
theorem k_sub {D : va_G} {cl : List vw_C} {ca : Nat → ClassId} {ad : Nat → Nat} {st : kS} {H : Heap} (h : va_P D cl (uw 166 ad (kG ca ad st)) H) : va_P D cl (uw 165 ad (xG ca ad st.1)) H := by
  intro k q hq
  obtain ⟨h1, rfl⟩ := uw_inv hq
  have := h k _ (uw_get (by omega))
  rw [kg_desk h1] at this
  exact this
theorem k_join {D : va_G} {cl : List vw_C} {ca : Nat → ClassId} {ad : Nat → Nat} {st : xS} {o : Nat → Int64} {u : xS} {H H1 : Heap} (h : va_P D cl (uw 166 ad (kG ca ad (st, o))) H) (h1 : va_P D cl (uw 165 ad (xG ca ad u)) H1) (hk : H1[ad 165]? = H[ad 165]?) : va_P D cl (uw 166 ad (kG ca ad (u, o))) H1 := by
  intro k q hq
  obtain ⟨h2, rfl⟩ := uw_inv hq
  by_cases h3 : k = 165
  · subst h3
    have h4 := h 165 _ (uw_get (by decide))
    exact h4.kept hk
  · rw [kg_desk (by omega)]
    exact h1 k _ (uw_get (by omega))
/-- exceptions that are not of each other's class -/
def kPairs : List (String × String) := [(tIS, tIA), (tIS, tNS), (tIO, tNS), (tNS, tIA)]
def kNC (s : State) : Prop := ∀ q ∈ kPairs, ∃ cA cB, s.vm.findClass q.1 = some cA ∧ s.vm.findClass q.2 = some cB ∧ s.vm.assignable cA cB = false
theorem kNC_of {a : Array Value} {s : State} (h : ∀ q ∈ kPairs, (Cond.not (Cond.castable q.1 q.2)).before a s = true) : kNC s := by
  intro q hq
  have h := h q hq
  simp only [Cond.before, Cond.holds, Cond.value] at h
  cases h1 : s.vm.findClass q.1 with
  | none => simp [h1] at h
  | some cA =>
    cases h2 : s.vm.findClass q.2 with
    | none => simp [h1, h2] at h
    | some cB =>
      refine ⟨cA, cB, rfl, rfl, ?_⟩
      simpa [h1, h2] using h
theorem kNC_moved {s U : State} (hW : s.WarmedH U.vm) (h : kNC s) : kNC U := by
  intro q hq
  obtain ⟨cA, cB, h1, h2, h3⟩ := h q hq
  exact ⟨cA, cB, by rw [hW.alike.findClass]; exact h1, by rw [hW.alike.findClass]; exact h2, by rw [hW.alike.assignable]; exact h3⟩
section KCATCH
variable {p : Program} {l : Launch} {e : Env} {R : Room} {s : State} {m : MethodId} {args : Array Value} {below : List Frame} {meth : Method} {c : Code} {H : Heap} {locs : List Loc} {cells slots : Nat} {Q : State → Prop}
variable {cc : ByteArray} {pc nL : Nat} {ls : Array Slot} {Ts : List Cond} {own : String}
/-- one entry's look, at a point of the walk: the class is resolved then -/
theorem kLook {T : State} (S : CallFix p m c cc nL s args Ts own) (X : Stand p l e R s m args below meth c T locs cells slots) {name : String} {idx : Nat} (hlink : Cond.classLink own idx name ∈ Ts) : ∃ (cN : ClassId) (vm' : Vm), s.vm.findClass name = some cN ∧ s.WarmedH vm' ∧ (Jvm.resolveClass m.cls idx).Gives e.toSetting T.vm (.ok cN) vm' ∧ vm'.classes.size ≤ T.vm.classes.size := by
  have hpl : e.platform.magicAccessors = ({} : Platform).magicAccessors := by rw [X.admits.platform]
  obtain ⟨cN, hcN, hcl⟩ := Cond.classLink_spec S.2.2.2.1 (S.2.2.2.2 _ hlink) e.platform hpl
  obtain ⟨dk, _, _, kt, hd, _, _, _, _, hkt, _, hopen⟩ := hcl.here
  have hcl₀ := X.warmed.classLinks hcl
  have hW' : s.WarmedH (T.vm.noted m.cls idx (.cls cN)) := X.warmed.noted hd hopen (State.rightAt_cls hcl)
  exact ⟨cN, _, hcN, hW', resolveClass_links e.toSetting hcl₀, by no_record⟩
theorem kClass {s : State} {vm' : Vm} (hW : s.WarmedH vm') {name : String} {cN : ClassId} (h : s.vm.findClass name = some cN) : ∃ k, vm'.classes[cN]? = some k := by
  obtain ⟨k, hk, -⟩ := Vm.findClass_spec h
  obtain ⟨k', hk', -⟩ := hW.alike.2.2 _ _ hk
  exact ⟨k', hk'⟩
theorem kSelf (vm : Vm) (c : ClassId) : vm.assignable c c = true := by
  unfold Vm.assignable
  unfold Vm.assignableAux
  simp
theorem kCatch1 (S : CallFix p m c cc nL s args Ts own) {x : ExceptionTableEntry} {t : List ExceptionTableEntry} (htab : c.exceptionTable.toList = x :: t) (hx : covers x pc = true) (h0 : x.catchType ≠ 0) {name : String} (hlink : Cond.classLink own x.catchType name ∈ Ts) {a : Nat} {cell : Cell} (h1 : H[a]? = some cell) (h2 : cell.vm = .none) (h3 : s.vm.findClass name = some cell.cls) {st : List Value}
    (kk : W p l e R s m args below meth c H locs cells slots Q (F0 m x.handlerPc ls [.ref a])) : WT p l e R s m args below meth c H locs cells slots Q (F0 m pc ls st) a := by
  intro T hT X
  obtain ⟨cN, vm', hcN, hW', hg, hsz⟩ := kLook S X hlink
  cases h3.symm.trans hcN
  obtain ⟨r, q1, q2⟩ := kk (T.setVm vm') hT (X.noted hW')
  refine ⟨r, ?_, q2⟩
  have hmeth : T.vm.method? m = some meth := X.method'
  refine kCaught (vm' := vm') X.here (fun Q' E' d' acts' => ?_) q1
  rw [W.findHandler_eq (meth := meth) (code := c) (by rw [Stand.throwing_vm]; exact hmeth) X.code, htab, kGo (f := F0 m pc ls st) (vm' := vm') (c := cell.cls) (cell := cell) hx h0 (by rw [Stand.throwing_vm]; exact hg) (by rw [Stand.throwing_vm]; exact hsz) (by rw [Stand.throwing_heap, hT]; exact h1) (fun k z => by rw [h2] at z; cases z) (kClass hW' hcN) (kClass hW' hcN)]
  rw [if_pos (kSelf _ _)]
theorem kCatch2 (S : CallFix p m c cc nL s args Ts own) {x y : ExceptionTableEntry} {t : List ExceptionTableEntry} (htab : c.exceptionTable.toList = x :: y :: t) (hx : covers x pc = true) (h0 : x.catchType ≠ 0) (hy : covers y pc = true) (h0' : y.catchType ≠ 0) {name name' : String} (hlink : Cond.classLink own x.catchType name' ∈ Ts) (hlink' : Cond.classLink own y.catchType name ∈ Ts) (hNC : kNC s) (hp : (name, name') ∈ kPairs) {a : Nat} {cell : Cell} (h1 : H[a]? = some cell) (h2 : cell.vm = .none) (h3 : s.vm.findClass name = some cell.cls) {st : List Value}
    (kk : W p l e R s m args below meth c H locs cells slots Q (F0 m y.handlerPc ls [.ref a])) : WT p l e R s m args below meth c H locs cells slots Q (F0 m pc ls st) a := by
  intro T hT X
  obtain ⟨cA, cB, n1, n2, n3⟩ := hNC _ hp
  obtain ⟨cN, vm1, hcN, hW1, hg1, hsz1⟩ := kLook S X hlink
  cases n2.symm.trans hcN
  cases h3.symm.trans n1
  obtain ⟨cN2, vm2, hcN2, hW2, hg2, hsz2⟩ := kLook S (X.noted hW1) hlink'
  cases h3.symm.trans hcN2
  obtain ⟨r, q1, q2⟩ := kk (T.setVm vm2) hT (X.noted hW2)
  refine ⟨r, ?_, q2⟩
  have hmeth : T.vm.method? m = some meth := X.method'
  refine kCaught (vm' := vm2) X.here (fun Q' E' d' acts' => ?_) q1
  rw [W.findHandler_eq (meth := meth) (code := c) (by rw [Stand.throwing_vm]; exact hmeth) X.code, htab, kGo (f := F0 m pc ls st) (vm' := vm1) (c := cB) (cell := cell) hx h0 (by rw [Stand.throwing_vm]; exact hg1) (by rw [Stand.throwing_vm]; exact hsz1) (by rw [Stand.throwing_heap, hT]; exact h1) (fun k z => by rw [h2] at z; cases z) (kClass hW1 n1) (kClass hW1 n2)]
  rw [if_neg (by rw [hW1.alike.assignable, n3]; decide)]
  rw [kGo (s := (((T.setTop (F0 m pc ls st)).pushFrame (Frame.throwing a)).setVm vm1)) (f := F0 m pc ls st) (vm' := vm2) (c := cell.cls) (cell := cell) hy h0' hg2 hsz2 (by show ((T.setTop (F0 m pc ls st)).pushFrame (Frame.throwing a)).heap[a]? = _; rw [Stand.throwing_heap, hT]; exact h1) (fun k z => by rw [h2] at z; cases z) (kClass hW2 n1) (kClass hW2 n1)]
  rw [if_pos (kSelf _ _)]
  rfl
end KCATCH
