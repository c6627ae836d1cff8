section TCALL
variable {σ : Type} {p : Program} {l : Launch} {e : Env} {R : Room} {s : State} {m : MethodId} {args : Array Value} {below : List Frame} {meth : Method} {c : Code} {H : Heap} {locs : List Loc} {cells slots : Nat} {Q : State → Prop}
/-- a call of a method that returns or throws, from a point of a walk -/
theorem tRun {y : MethodName} {ws : List Cond} {rm : Room} {Pc : Array Value → State → Prop} {Qm : Array Value → State → Outcome → State → Prop} {U : State} (hM : MetFree l y (headSpec ws rm) Pc (fun _ _ _ _ _ => True) Qm) (X : Stand p l e R s m args below meth c U locs cells slots) {g : JFrame} (hg : g.method = m) (hsize : g.locals.size = c.maxLocals) {ig : Instr} {len : Nat} (hdg : decode c.code g.pc = .ok (ig, len)) {a : Array Value} {mk : MethodId} {methY : Method} {cY : Code}
    (hn : U.methodNamed? y = some mk) (hmY : U.vm.method? mk = some methY) (hcY : methY.code = some cY) (hini : (Cond.initialized y.cls).before a U = true) (hws : ∀ w ∈ ws, w.before a U = true) (hfr : rm.frames + 1 ≤ R.frames) (hlo : 2 * g.monitorRoom + (g.stack.map fun v => v.category).sum + (cY.maxLocals + 11) + rm.locals ≤ R.locals) (hce : cells + rm.cells ≤ R.cells) (hsl : slots + rm.slots ≤ R.slots) (hP : Pc a (U.calling g mk a)) :
    ∃ o s₂, Steps p.tables e below (doInvoke e (U.setTop g) [] mk a).1 s₂ ∧ Ended s₂ (.java g :: below) o ∧ Qm a (U.calling g mk a) o s₂ := by
  obtain ⟨kY, hkY, -⟩ := className_of_methodNamed hn
  have hinitY : kY.init = .initialized := Cond.initialized_spec (findClass_of_methodNamed hn) hkY hini
  have h : At U g.method c below := by rw [hg]; exact X.here
  have happ : (headSpec ws rm).appliesLoose y e.platform (U.calling g mk a) = true :=
    Spec.appliesLoose_calling (g := g) h hdg hn hkY hinitY (X.room_calling (g := g) (R' := rm) hsize hmY hcY hfr hlo hce hsl) (atoms_intro hws)
  obtain ⟨mid, hmid⟩ := h.above
  have hfrm : (U.setTop g).frames = (.java g :: mid) ++ below := by rw [State.frames_setTop' g h.top, hmid]; rfl
  obtain ⟨o, s₂, hsteps, -, hend, hq⟩ := Steps.callFree hM p X.admits X.cas X.clock (acts := []) hfrm happ hP trivial
  rw [State.frames_setTop' g h.top, X.tail] at hend
  exact ⟨o, s₂, hsteps, hend, hq⟩
variable {cc : ByteArray} {pc nL : Nat} {ls : Array Slot} {rest : List Value} {D : va_G} {cl : List vw_C} {tys : List (ClassId × FieldType)} {Ts : List Cond} {own C : String} {N : Nat} {ad : Nat → Nat} {G : σ → Nat → va_E} {st : σ}
variable {y : MethodName} {bytes : ByteArray} {maxL fr lo mc ms n index : Nat} {ret : Option FieldType} {As : List Value} {b : Nat}
/-- behind the call: it goes on, or the exception is on its way -/
theorem tAfter {post : Int32 → σ → Prop} {thr : String → σ → Prop} {T U : State} {g : JFrame} (hU : U.heap = H) (hW1 : s.WarmedH U.vm) (X : Stand p l e R s m args below meth c U locs cells slots) (hg : g = F0 m pc ls rest) {ig : Instr} (hdg : decode c.code pc = .ok (ig, 3)) {a : Array Value} {mk : MethodId} (hS : va_S (uA N ad s.heap.size) s.heap H locs) {o : Outcome} {s₂ : State} (hend : Ended s₂ (.java g :: below) o)
    (hq : tQ D cl N ad G post thr (uA N ad H.size) a (U.calling g mk a) o s₂ ∧ ∃ L, tEnd (U.calling g mk a) s₂ L mc ms ∧ ∀ q ∈ L, uA N ad H.size q.base)
    (kr : ∀ (r : Int32) (u : σ) (H1 : Heap) (locs1 : List Loc), post r u → va_P D cl (uw N ad (G u)) H1 → va_S (uA N ad s.heap.size) s.heap H1 locs1 → W p l e R s m args below meth c H1 locs1 (cells + mc) (slots + ms) Q (F0 m (pc + 3) ls (.int r :: rest)))
    (kt : ∀ (x : Nat) (X : String) (u : σ) (cell : Cell) (H1 : Heap) (locs1 : List Loc), thr X u → va_P D cl (uw N ad (G u)) H1 → va_S (uA N ad s.heap.size) s.heap H1 locs1 → H1[x]? = some cell → cell.vm = .none → s.vm.findClass X = some cell.cls → WT p l e R s m args below meth c H1 locs1 (cells + mc) (slots + ms) Q (F0 m pc ls rest) x) :
    ∃ t, Steps p.tables e below s₂ t ∧ Q t := by
  subst hg
  obtain ⟨⟨hqa, hz, hk⟩, L, hE, hL⟩ := hq
  have hz' : H.size ≤ s₂.heap.size := by rw [← hU]; exact hz
  have hk' : ∀ q : Nat, q < H.size → ¬ uA N ad H.size q → s₂.heap[q]? = H[q]? := fun q h1 h2 => by rw [← hU]; exact hk q (by show q < U.heap.size; rw [hU]; exact h1) h2
  have hS1 : va_S (uA N ad s.heap.size) s.heap s₂.heap (locs ++ L) :=
    ⟨Nat.le_trans hS.1 hz', fun q h1 h2 => by rw [hk' q (Nat.lt_of_lt_of_le h1 hS.1) (fun z => h2 (uKeep hS q z))]; exact hS.2.1 q h1 h2, fun q hq => by
      rcases List.mem_append.mp hq with h | h
      · exact hS.2.2 q h
      · exact uKeep hS _ (hL q h)⟩
  rcases hqa with ⟨r, u, rfl, hp, hT⟩ | ⟨x, X1, u, cell, rfl, hp, hT, h1, h2, h3⟩
  · obtain ⟨T', X', hW', -, hs2⟩ := X.outOf (g := F0 m pc ls rest) rfl hdg hend hE.1 hE.2
    have hh : T'.heap = s₂.heap := by rw [hs2]; rfl
    obtain ⟨t, a1, b1⟩ := kr r u T'.heap (locs ++ L) hp (by rw [hh]; exact hT) (by rw [hh]; exact hS1) T' rfl X'
    exact ⟨t, by rw [hs2]; exact a1, b1⟩
  · obtain ⟨T', X', hW', -, hs2⟩ := X.outOfThrown (g := F0 m pc ls rest) rfl hend hE.1 hE.2
    have hh : T'.heap = s₂.heap := by rw [hs2]; rfl
    obtain ⟨t, a1, b1⟩ := kt x X1 u cell T'.heap (locs ++ L) hp (by rw [hh]; exact hT) (by rw [hh]; exact hS1) (by rw [hh]; exact h1) h2 (by
      have h4 : U.vm.findClass X1 = some cell.cls := h3
      rw [hW1.alike.findClass] at h4; exact h4) T' rfl X'
    exact ⟨t, by rw [hs2]; exact a1, b1⟩
/-- x.f(..) that returns an int or throws, on an object of the same world -/
theorem tVi {post : Int32 → σ → Prop} {thr : String → σ → Prop} {g0 : Nat → va_E} (S : CallFix p m c cc nL s args Ts own) (hK : va_K D cl tys s) (hN : ∀ w ∈ uNW, va_Nw w s) (hTK : tK s) (hP0 : va_P D cl (uw N ad g0) s.heap) (hP : va_P D cl (uw N ad (G st)) H) (hS : va_S (uA N ad s.heap.size) s.heap H locs) (hM : tMi l y bytes maxL ret fr lo mc ms D cl tys N ad G st (.ref (ad b) :: As) post thr) (hcw : uCW Ts own index y bytes maxL ret n fr lo R) (hI : Cond.instanceMethod y ∈ uWS) (hX : Cond.selects C y y ∈ uWS) (hb : b < N) {ci : Nat} {q : vw_C} {fs : List Value} (hg : G st b = .inr (ci, fs)) (hq : cl[ci]? = some q) (hqC : q.1 = C) (hn : As.length = n) (hls : ls.size = nL) {st0 : List Value} (hst : st0 = As.reverse ++ .ref (ad b) :: rest) (hW : (rest.map fun v => v.category).sum ≤ 8) (hdg : decode cc pc = .ok (.invokevirtual index, 3)) (hc : cells + mc ≤ R.cells) (hs : slots + ms ≤ R.slots)
    (kr : ∀ (r : Int32) (u : σ) (H1 : Heap) (locs1 : List Loc), post r u → va_P D cl (uw N ad (G u)) H1 → va_S (uA N ad s.heap.size) s.heap H1 locs1 → W p l e R s m args below meth c H1 locs1 (cells + mc) (slots + ms) Q (F0 m (pc + 3) ls (.int r :: rest)))
    (kt : ∀ (x : Nat) (X : String) (u : σ) (cell : Cell) (H1 : Heap) (locs1 : List Loc), thr X u → va_P D cl (uw N ad (G u)) H1 → va_S (uA N ad s.heap.size) s.heap H1 locs1 → H1[x]? = some cell → cell.vm = .none → s.vm.findClass X = some cell.cls → WT p l e R s m args below meth c H1 locs1 (cells + mc) (slots + ms) Q (F0 m pc ls rest) x) :
    W p l e R s m args below meth c H locs cells slots Q (F0 m pc ls st0) := by
  subst hqC
  intro T hT X
  obtain ⟨hU, hcode, hlink, hini, ⟨hy1, hy2, hlen⟩, hfr, hlo⟩ := hcw
  obtain ⟨hx, hbb, hml, ho, hts⟩ := S
  obtain ⟨cellB, hcB, hoB, hclB⟩ := va_recv hK hP hq (uw_at hb hg)
  obtain ⟨mk, methM, hnamed, hmethM, hstM, habM⟩ := Cond.instanceMethod_spec (hts _ (hU _ hI))
  obtain ⟨methM', cM, hmethM', hcM, -, hlM, -, -, -, hsigM⟩ := Cond.code_spec hnamed (hts _ (hU _ hcode))
  cases hmethM.symm.trans hmethM'
  obtain ⟨c2, r2, m2, q1, q2, q3, q4, kP, hkP, hkPi⟩ := Cond.selects_spec (hts _ (hU _ hX))
  cases hclB.symm.trans q1
  cases (State.methodFound?_of_named hnamed ⟨hy1, hy2⟩).symm.trans q2
  cases hnamed.symm.trans q3
  have hselP : selectMethod e.platform s.vm cellB.cls mk = .method mk := by rw [Launch.admits_selectMethod X.admits]; exact q4
  obtain ⟨vm₁, X₁, hstep₁⟩ := X.invokevirtual hx ho (hts _ (hU _ hlink)) hnamed hmethM hstM hkP hkPi ⟨hy1, hy2⟩ (a := ad b) (cell := cellB) (by rw [hT]; exact hcB)
    (fun z h => by rw [h] at hoB; cases hoB) hselP hmethM habM hkP hkPi (g := F0 m pc ls st0) rfl (argsL := As) (rest := rest) (by rw [hn]; rw [hsigM] at hlen; exact (Option.some.inj hlen).symm) hst (by rw [hbb]; exact hdg)
  have hgood := uGood hU hcode
  obtain ⟨o, s₂, h1, h2, h3⟩ := tRun (hM H.size) X₁ (g := F0 m pc ls rest) rfl (hls.trans hml.symm) (by rw [hbb]; exact hdg) (a := (Value.ref (ad b) :: As).toArray) (X₁.named hnamed) (by rw [X₁.warmed.alike.method?]; exact hmethM) hcM
    (word_at (U := T.setVm vm₁) X₁.warmed (uWS_good hini) (hts _ (hU _ hini))) (fun w hw => word_at (U := T.setVm vm₁) X₁.warmed (hgood w hw).2 (hts _ (hgood w hw).1)) hfr
    (by rw [hlM]; have h8 := lv_room (m := m) (pc := pc) (ls := ls) (rest := rest) hW; show 2 * (F0 m pc ls rest).monitorRoom + (List.map (fun v => v.category) rest).sum + (maxL + 11) + lo ≤ R.locals; omega) hc hs (tB_at (av := Value.ref (ad b) :: As) hP0 hP hK hN hTK hS (T.setVm vm₁) hT X₁.warmed _ _)
  obtain ⟨t, a1, b1⟩ := tAfter (T := T) (U := T.setVm vm₁) (g := F0 m pc ls rest) hT X₁.warmed X₁ rfl (by rw [hbb]; exact hdg) hS h2 h3 kr kt
  exact ⟨t, hstep₁ _ (fun acts => by rw [doInvoke_state]; exact h1.trans a1), b1⟩
end TCALL
