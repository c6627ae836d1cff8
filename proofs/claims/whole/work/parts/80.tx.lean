/-! THROWING: words of the exceptions' classes -/
def six13 : ByteArray := ⟨#[0x2a, 0x2b, 0xb7, 0x00, 0x0d, 0xb1]⟩
abbrev tRT : String := "java/lang/RuntimeException"
abbrev tEX : String := "java/lang/Exception"
abbrev tIA : String := "java/lang/IllegalArgumentException"
abbrev tIS : String := "java/lang/IllegalStateException"
abbrev tNS : String := "java/util/NoSuchElementException"
abbrev tIO : String := "java/lang/IndexOutOfBoundsException"
def tPs (X Y : String) (ix : Nat) (bytes : ByteArray) : List Cond := [.instanceMethod (Bundle.initS X), .code (Bundle.initS X) bytes 2 none, .methodLink X ix (Bundle.initS Y)]
/-- words on what all exceptions share -/
def tBase : List Cond := (Bundle.throwableAtoms.filter goodWord) ++ Bundle.throwableSAtoms ++ tPs tRT tEX 7 Bundle.six ++ tPs tEX Bundle.tN 7 Bundle.six ++
  [.fieldLink Bundle.tN 198 Bundle.tN "backtrace" "Ljava/lang/Object;", .lays Bundle.tN Bundle.tN "backtrace" "Ljava/lang/Object;"]
/-- words on the class X, made in the class own by the link ic -/
def tOwn (own : String) (ic : Nat) (X : String) (ix : Nat) (bytes : ByteArray) : List Cond := tPs X tRT ix bytes ++
  [.methodLink own ic (Bundle.initS X), .instantiable X 6, .initialized X, .selects X Bundle.tFill0 Bundle.tFill0, .selects X Bundle.tFill Bundle.tFill,
   .lays X Bundle.tN "cause" "Ljava/lang/Throwable;", .lays X Bundle.tN "stackTrace" Bundle.steD, .lays X Bundle.tN "suppressedExceptions" Bundle.listD, .lays X Bundle.tN "detailMessage" "Ljava/lang/String;", .lays X Bundle.tN "backtrace" "Ljava/lang/Object;"]
/-- words on the statics of Throwable -/
def tHW : List Cond := [.laysStatic Bundle.tN "UNASSIGNED_STACK" Bundle.steD, .laysStatic Bundle.tN "SUPPRESSED_SENTINEL" Bundle.listD, .isRef (.static Bundle.tN "UNASSIGNED_STACK" Bundle.steD), .isRef (.static Bundle.tN "SUPPRESSED_SENTINEL" Bundle.listD)]
theorem tDecl {args : Array Value} {s : State} {y : MethodName} {bytes : ByteArray} {n : Nat} {r : Option FieldType} (h1 : (Cond.instanceMethod y).before args s = true) (h2 : (Cond.code y bytes n r).before args s = true) : (Cond.declares y).before args s = true := by
  obtain ⟨m, meth, hn, hm, hs, -⟩ := Cond.instanceMethod_spec h1
  obtain ⟨meth', c, hm', -, -, -, -, -, -, hsig⟩ := Cond.code_spec hn h2
  cases hm.symm.trans hm'
  simp [Cond.before, Cond.holds, Cond.value, hn, hm, hs, hsig]
theorem tPass {args : Array Value} {s : State} {X Y : String} {ix : Nat} {bytes b2 : ByteArray} (h : ∀ w ∈ tPs X Y ix bytes, w.before args s = true) (h1 : (Cond.instanceMethod (Bundle.initS Y)).before args s = true) (h2 : (Cond.code (Bundle.initS Y) b2 2 none).before args s = true) : ∀ w ∈ Bundle.passSAtoms X Y ix bytes, w.before args s = true := by
  intro w hw
  simp only [Bundle.passSAtoms, List.mem_cons, List.not_mem_nil, or_false] at hw
  rcases hw with rfl | rfl | rfl | rfl | rfl
  · exact h _ (by simp [tPs])
  · exact h _ (by simp [tPs])
  · exact h _ (by simp [tPs])
  · exact h1
  · exact tDecl h1 h2
/-- a method's end: it returned or it threw -/
def tEnd (st t : State) (L : List Loc) (mc ms : Nat) : Prop := st.WarmedH t.vm ∧ st.sameButNew ({ t with vm := st.vm } : State) L mc ms
def tMet (l : Launch) (y : MethodName) (ws : List Cond) (rm : Room) (Pc : Array Value → State → Prop) (Qc : Array Value → State → Outcome → State → Prop) (mc ms : Nat) (free : Addr → Prop) : Prop :=
  MetFree l y (headSpec ws rm) Pc (fun _ _ _ _ _ => True) (fun a st o t => Qc a st o t ∧ ∃ L, tEnd st t L mc ms ∧ ∀ q ∈ L, free q.base)
def tMQ (below : List Frame) (Qc : Array Value → State → Outcome → State → Prop) (a : Array Value) (s : State) (mc ms : Nat) (free : Addr → Prop) : State → Prop := fun t =>
  ∃ o, t.status = .running ∧ Ended t below o ∧ Qc a s o t ∧ ∃ L, tEnd s t L mc ms ∧ ∀ q ∈ L, free q.base
section TX
variable {p : Program} {l : Launch} {e : Env} {R : Room} {s : State} {m : MethodId} {args : Array Value} {below : List Frame} {meth : Method} {c : Code} {H : Heap} {locs : List Loc} {cells slots : Nat} {Q : State → Prop}
variable {cc : ByteArray} {pc nL : Nat} {ls : Array Slot} {Ts : List Cond} {own : String}
theorem W.mono {Q' : State → Prop} {g : JFrame} (h : ∀ t, Q t → Q' t) (k : W p l e R s m args below meth c H locs cells slots Q g) : W p l e R s m args below meth c H locs cells slots Q' g := by
  intro T hT X
  obtain ⟨t, a, b⟩ := k T hT X
  exact ⟨t, a, h t b⟩
set_option maxHeartbeats 1000000 in
/-- the constructor's call behind 'new', 'dup' and the text; then athrow, out of the method -/
theorem tThrow (S : CallFix p m c cc nL s args Ts own) (hlf : l.flags = pinnedFlags ++ [noTraceFlag]) {X : String} {ic ix : Nat} {bytes : ByteArray}
    (hB : ∀ w ∈ tBase, w.before args s = true) (hO : ∀ w ∈ tOwn own ic X ix bytes, w.before args s = true) (hH : ∀ w ∈ tHW, w.before args s = true) (hX : Bundle.fit X = true)
    (d0 : decode bytes 0 = .ok (.aload_n 0, 1)) (d1 : decode bytes 1 = .ok (.aload_n 1, 1)) (d2 : decode bytes 2 = .ok (.invokespecial ix, 3)) (d5 : decode bytes 5 = .ok (.return_, 1))
    (hx0 : c.exceptionTable.toList = []) (hlk : meth.locks = false)
    (hlocs : ∀ x ∈ locs, ∀ cell, s.heap[x.base]? = some cell → cell.vm.isStatics = false)
    {a : Addr} {cX : ClassId} {kX : Class} (hfX : s.vm.findClass X = some cX) (hkX : s.vm.classes[cX]? = some kX) (hcell : H[a]? = some (freshCell cX kX)) (hnew : s.heap.size ≤ a)
    {msg : Nat} (hls : ls.size = nL) (hd6 : decode cc pc = .ok (.invokespecial ic, 3)) (hd9 : decode cc (pc + 3) = .ok (.athrow, 1)) (hRf : 5 < R.frames) (hRl : 82 ≤ R.locals)
    {Qc : Array Value → State → Outcome → State → Prop} {free : Addr → Prop} (hfree : ∀ q ∈ locs, free q.base) (hfa : free a)
    (hq : ∀ (t : State) (cell : Cell), t.heap = H.setIfInBounds a cell → cell.cls = cX → cell.vm = .none → s.WarmedH t.vm → Qc args s (.threw a) t) :
    W p l e R s m args below meth c H locs cells slots (tMQ below Qc args s cells slots free) (F0 m pc ls [.ref msg, .ref a, .ref a]) := by
  intro T0 hT X0
  obtain ⟨hexec, hb, hml, hown, -⟩ := S
  have htr : e.platform.stackTraces = false := Launch.traces_off hlf X0.admits
  have howns : e.platform.frameOwnsMonitors = true := by rw [X0.admits.platform]
  have hfin : e.platform.finalization = false := by rw [X0.admits.platform]
  have hpl : e.platform.magicAccessors = ({} : Platform).magicAccessors := by rw [X0.admits.platform]
  have hTA : ∀ w ∈ Bundle.throwableAtoms, w.before args s = true := by
    intro w hw
    by_cases hg : goodWord w = true
    · exact hB w (by simp only [tBase, List.mem_append, List.mem_filter]; exact Or.inl (Or.inl (Or.inl (Or.inl ⟨hw, hg⟩))))
    · have h2 : w ∈ tHW := by
        have h3 : Bundle.throwableAtoms.all (fun w => goodWord w || decide (w ∈ tHW)) = true := by decide +kernel
        have h4 := List.all_eq_true.mp h3 w hw
        simpa [hg] using h4
      exact hH w h2
  have hTS : ∀ w ∈ Bundle.throwableSAtoms, w.before args s = true := fun w hw => hB w (by simp only [tBase, List.mem_append]; exact Or.inl (Or.inl (Or.inl (Or.inr hw))))
  have hP2 : ∀ w ∈ tPs tRT tEX 7 Bundle.six, w.before args s = true := fun w hw => hB w (by simp only [tBase, List.mem_append]; exact Or.inl (Or.inl (Or.inr hw)))
  have hP3 : ∀ w ∈ tPs tEX Bundle.tN 7 Bundle.six, w.before args s = true := fun w hw => hB w (by simp only [tBase, List.mem_append]; exact Or.inl (Or.inr hw))
  have hP1 : ∀ w ∈ tPs X tRT ix bytes, w.before args s = true := fun w hw => hO w (by simp only [tOwn, List.mem_append]; exact Or.inl hw)
  obtain ⟨T, Z0, L, -, Y⟩ := ThrowableC.of_atoms (args := args) howns hfin hpl hTA
  obtain ⟨Z, M, LZ, LM, hnZ⟩ := Init0T.ofS_atoms (args := args) hpl L Y hTS
  obtain ⟨PX, LX, hmX, hsX⟩ := PassC.ofS_atoms (args := args) (s := s) hpl (X := X) (Y := tRT) (Bundle.fit_spec hX).1 (by decide) d0 d1 d2 d5 (tPass (b2 := Bundle.six) hP1 (hP2 _ (by simp [tPs])) (hP2 _ (by simp [tPs])))
  obtain ⟨PR, LR, hmR, hsR⟩ := PassC.ofS_atoms (args := args) (s := s) hpl (X := tRT) (Y := tEX) (by decide) (by decide) Bundle.six_0 Bundle.six_1 Bundle.six_2 Bundle.six_5 (tPass (b2 := Bundle.six) hP2 (hP3 _ (by simp [tPs])) (hP3 _ (by simp [tPs])))
  obtain ⟨PE, LE, hmE, hsE⟩ := PassC.ofS_atoms (args := args) (s := s) hpl (X := tEX) (Y := Bundle.tN) (by decide) (by decide) Bundle.six_0 Bundle.six_1 Bundle.six_2 Bundle.six_5 (tPass hP3 (hTS _ (by simp [Bundle.throwableSAtoms])) (hTS (.code (Bundle.initS Bundle.tN) Jvm.LibCode.Throwable.InitS.code 2 none) (by simp [Bundle.throwableSAtoms])))
  have hfound : s.vm.findClass X = some PX.m.cls := findClass_of_methodNamed hmX
  cases Option.some.inj (hfX.symm.trans hfound)
  obtain ⟨c1, kX', hc1, hk, hord, -, -, hn6⟩ := Cond.instantiable_spec (hO (.instantiable X 6) (by simp [tOwn]))
  cases Option.some.inj (hc1.symm.trans hfound)
  cases Option.some.inj (hkX.symm.trans hk)
  have sel : ∀ (y : MethodName) (k : MethodId), s.methodNamed? y = some k → (y.cls ≠ "java/lang/invoke/MethodHandle" ∧ y.cls ≠ "java/lang/invoke/VarHandle") → (Cond.selects X y y).before args s = true → selectMethod e.platform s.vm PX.m.cls k = .method k := by
    intro y k hn hy hw
    obtain ⟨c2, r2, m2, q1, q2, q3, q4, -⟩ := Cond.selects_spec hw
    cases Option.some.inj (q1.symm.trans hfound)
    cases Option.some.inj (q2.symm.trans (State.methodFound?_of_named hn hy))
    cases Option.some.inj (q3.symm.trans hn)
    rw [Launch.admits_selectMethod X0.admits]; exact q4
  have hsel0 := sel Bundle.tFill0 T.fill0 Y.fill0 (by decide) (hO _ (by simp [tOwn]))
  have hselF := sel Bundle.tFill T.fill Y.fill (by decide) (hO _ (by simp [tOwn]))
  obtain ⟨cellS0, hcS0, hiss⟩ := Y.statics
  obtain ⟨u0, hu0⟩ := Cond.staticRefV Y.unassigned L.unassignedStatic L.statics hcS0 hiss (hH (.isRef (.static Bundle.tN "UNASSIGNED_STACK" Bundle.steD)) (by simp [tHW]))
  obtain ⟨sen, hsen⟩ := Cond.staticRefV Y.sentinel L.sentinelStatic L.statics hcS0 hiss (hH (.isRef (.static Bundle.tN "SUPPRESSED_SENTINEL" Bundle.listD)) (by simp [tHW]))
  obtain ⟨ci198, i198, fB, hk198, hg198, ha198, hsB, -, hnB, htB, hffB⟩ := Cond.ownField (t := .object "java/lang/Object") Y.found L.cls (by decide +kernel) (hB (.fieldLink Bundle.tN 198 Bundle.tN "backtrace" "Ljava/lang/Object;") (by simp [tBase])) (hB (.lays Bundle.tN Bundle.tN "backtrace" "Ljava/lang/Object;") (by simp [tBase])) e.platform hpl
  obtain ⟨cellS, hcS', heS, -, hkeep⟩ := X0.same.2.2.2.2.2 T.aS cellS0 hcS0
  have hcellS : T0.heap[T.aS]? = some cellS := hcS'
  have hout' : ∀ i, (⟨T.aS, i⟩ : Loc) ∉ locs := fun i hmem => by
    have := hlocs _ hmem cellS0 hcS0
    rw [hiss] at this; cases this
  have hknownS : cellS.vm ≠ .unknown := by
    rw [heS]; intro hu
    rw [show cellS0.vm = .unknown from hu] at hiss
    cases hiss
  have hneS : T.aS ≠ a := Nat.ne_of_lt (Nat.lt_of_lt_of_le (Array.getElem?_eq_some_iff.mp hcS0).1 hnew)
  obtain ⟨iM, hffM⟩ := Y.msg
  have lay : ∀ (nm ds : String), (Cond.lays X Bundle.tN nm ds) ∈ tOwn own ic X ix bytes → (Cond.lays X Bundle.tN nm ds).before args s = true := fun nm ds h => hO _ h
  obtain ⟨tyC, dC, hdC, hdnC⟩ := Cond.laysAt hfound hk Y.cause (lay "cause" "Ljava/lang/Throwable;" (by simp [tOwn]))
  obtain ⟨tyS, dS, hdS, hdnS⟩ := Cond.laysAt hfound hk Y.stack (lay "stackTrace" Bundle.steD (by simp [tOwn]))
  obtain ⟨tyP, dP, hdP, hdnP⟩ := Cond.laysAt hfound hk Y.supp (lay "suppressedExceptions" Bundle.listD (by simp [tOwn]))
  obtain ⟨tyM, dM, hdM, hdnM⟩ := Cond.laysAt hfound hk hffM (lay "detailMessage" "Ljava/lang/String;" (by simp [tOwn]))
  obtain ⟨tyB, dB, hdB, hdnB⟩ := Cond.laysAt hfound hk hffB (lay "backtrace" "Ljava/lang/Object;" (by simp [tOwn]))
  have bC := Cond.laysApart hdB hdC hdnB hdnC (by rw [hnB, Y.causeName]; decide)
  have bS := Cond.laysApart hdB hdS hdnB hdnS (by rw [hnB, Y.stackName]; decide)
  have bP := Cond.laysApart hdB hdP hdnB hdnP (by rw [hnB, Y.suppName]; decide)
  have hskip : SkipFacts T e.platform s (fun u => u) u0 ((preparedCellV T.toThrowableT (freshCell PX.m.cls kX) a u0 sen).withEntry T0.cur) :=
    ⟨{ ci198 := ci198, i198 := i198, fBack := fB }, ⟨hk198, hg198, ha198, hsB⟩, by
      have := fresh_default (c := PX.m.cls) tyB
      rw [htB] at this
      simpa [preparedCellV, Cell.setSlot, Cell.withEntry, Array.getElem?_setIfInBounds, bC, bS, bP, bC.symm, bS.symm, bP.symm, defaultValue] using this, fun _ _ => rfl⟩
  obtain ⟨tm, methC, cdC, kC, vm₁, hnC, -, -, -, -, -, -, -, hW₁, st1⟩ := Steps.initColdS (tb := p.tables) (e := e) (below := below) (s := s) (U := T0) X0.here hexec X0.warmed hpl hown (t := Bundle.initS X) rfl rfl (Bundle.fit_spec hX).2
    (hO (.methodLink own ic (Bundle.initS X)) (by simp [tOwn])) (hP1 (.instanceMethod (Bundle.initS X)) (by simp [tPs])) (bytes := bytes) (maxL := 2) (hP1 (.code (Bundle.initS X) bytes 2 none) (by simp [tPs]))
    (f := F0 m pc ls [.ref msg, .ref a, .ref a]) rfl (a := a) (msg := .ref msg) (rest := [.ref a]) rfl (by rw [hb]; exact hd6)
  cases Option.some.inj (hnC.symm.trans hmX)
  have X₁ := X0.noted hW₁
  obtain ⟨vm₂, X₂, st2⟩ := X₁.ctorMessageOffV hexec (g := F0 m pc ls [.ref a]) rfl (hls.trans hml.symm) T L Z LZ M LM [PX, PR, PE]
    (fun P hP => by simp only [List.mem_cons, List.not_mem_nil, or_false] at hP; rcases hP with rfl | rfl | rfl; exact LX; exact LR; exact LE)
    ⟨Option.some.inj (hsX.symm.trans hmR), Option.some.inj (hsR.symm.trans hmE), Option.some.inj (hsE.symm.trans hnZ), trivial⟩ (u0 := u0) (sen := sen) (self := a) (msg := .ref msg) rfl (cell := freshCell PX.m.cls kX) (cellS := cellS)
    (by show T0.heap[a]? = _; rw [hT]; exact hcell) (fun _ => by simp) (by simp) rfl rfl hsel0 hselF hcellS hneS hknownS (by rw [hkeep _ (hout' _)]; exact hu0) (by rw [hkeep _ (hout' _)]; exact hsen)
    (Takes.of_laid hk hord tyC (by rw [Y.causeType]; rfl)) (Takes.of_laid hk hord tyS (by rw [Y.stackType]; exact fits_refV_array _ u0)) (Takes.of_laid hk hord tyP (by rw [Y.suppType]; exact fits_refV_object _ sen))
    (Takes.of_laid hk hord tyM (by rw [Y.msgType]; exact fits_refV_object _ ⟨.ref msg, rfl⟩)) Y.objLocals hskip htr [] (by rw [hb]; exact hd6) hRf hRl
  obtain ⟨hwalk, hrun, hended, hWU, hsame⟩ := X₂.athrowLeaves hexec (g := F0 m (pc + 3) ls [.ref a]) rfl rfl rfl (by rw [hx0]; intro x hx; cases hx) (a := a) (rest := []) rfl (by rw [hb]; exact hd9) hlk
  refine ⟨_, st1 _ (fun acts => by rw [doInvoke_state]; exact st2 _ hwalk), _, hrun, hended, hq _ (plainBareV T.toThrowableT (freshCell PX.m.cls kX) a u0 sen (.ref msg)) ?_ rfl rfl hWU, _, ⟨hWU, hsame⟩, ?_⟩
  · rw [← hT]; rfl
  · intro q hq'
    rcases List.mem_append.mp hq' with h1 | h1
    · exact hfree q h1
    · have hb' : q.base = a := by
        simp only [List.mem_cons, List.not_mem_nil, or_false] at h1
        rcases h1 with rfl | rfl | rfl | rfl | rfl <;> rfl
      rw [hb']; exact hfa
end TX
