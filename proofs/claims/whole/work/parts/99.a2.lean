/-! A WRAPPER'S WALK -/
def kB (D : va_G) (cl : List vw_C) (tys : List (ClassId × FieldType)) (ad : Nat → Nat) (g : Nat → va_E) (sz : Nat) (U : State) : Prop := tB D cl tys 166 ad g sz U ∧ kNC U
def kMi (l : Launch) (y : MethodName) (cc : ByteArray) (maxL : Nat) (hs : List (Nat × Nat × Nat × Nat)) (fr lo mc ms : Nat) (D : va_G) (cl : List vw_C) (tys : List (ClassId × FieldType)) (ca : Nat → ClassId) (ad : Nat → Nat) (st : kS) (av : List Value) (post : Int32 → kS → Prop) : Prop :=
  ∀ sz : Nat, tMet l y (Cond.codeWith y cc maxL (some .int) hs :: uWS) { frames := fr, cells := mc, slots := ms, locals := lo } (va_Pc av (kB D cl tys ad (kG ca ad st) sz)) (tQ D cl 166 ad (kG ca ad) post (fun _ _ => False) (uA 166 ad sz)) mc ms (uA 166 ad sz)
theorem kStart {l : Launch} {y : MethodName} {cc : ByteArray} {maxL : Nat} {hs : List (Nat × Nat × Nat × Nat)} {fr lo mc ms : Nat} {D : va_G} {cl : List vw_C} {tys : List (ClassId × FieldType)} {ca : Nat → ClassId} {ad : Nat → Nat} {st : kS} {av : List Value} {post : Int32 → kS → Prop} (hy : plainName y.cls = true) (hlen : (lg_sl av).length ≤ maxL)
    (h : ∀ (p : Program) (e : Env) (s : State) (m : MethodId) (below : List Frame) (meth : Method) (c : Code) (ls : Array Slot), CallFix p m c cc maxL s av.toArray (Cond.codeWith y cc maxL (some .int) hs :: uWS) y.cls → meth.sig.returnType = some .int → meth.locks = false → va_K D cl tys s → (∀ w ∈ uNW, va_Nw w s) → va_P D cl (uw 166 ad (kG ca ad st)) s.heap → tK s → kNC s → c.exceptionTable.toList.map (fun h => (h.startPc, h.endPc, h.handlerPc, h.catchType)) = hs → lv_has ls maxL (lv_args 0 av) →
      W p l e { frames := fr, cells := mc, slots := ms, locals := lo } s m av.toArray below meth c s.heap [] 0 0 (tMQ below (tQ D cl 166 ad (kG ca ad) post (fun _ _ => False) (uA 166 ad s.heap.size)) av.toArray s mc ms (uA 166 ad s.heap.size)) (F0 m 0 ls [])) :
    kMi l y cc maxL hs fr lo mc ms D cl tys ca ad st av post := by
  intro sz
  refine MetFree.of_bodyS (code := cc) (maxLocals := maxL) (ret := some .int) hy ?_ ?_
  · intro args s m h hn
    obtain ⟨m', meth, c, h0, h1, h2, h3, h4, -, h5, h6, -⟩ := Cond.codeWith_spec (atoms_spec (ws := Cond.codeWith y cc maxL (some .int) hs :: uWS) h _ List.mem_cons_self)
    cases hn.symm.trans h0
    exact ⟨meth, c, h1, h2, h3, h4, h5, h6⟩
  · intro p e s m args below meth c s₁ B hml hv _
    obtain ⟨rfl, ⟨⟨rfl, hP, hK, hN⟩, hT⟩, hC⟩ := hv
    have hh0 : s₁.heap = s.heap := by rw [B.state]; rfl
    have hx0 : c.exceptionTable.toList.map (fun h => (h.startPc, h.endPc, h.handlerPc, h.catchType)) = hs := by
      obtain ⟨m', meth', c', h0, hm', hc', -, -, hx, -⟩ := Cond.codeWith_spec (atoms_spec (ws := Cond.codeWith y cc maxL (some .int) hs :: uWS) B.pre _ List.mem_cons_self)
      cases B.named.symm.trans h0
      have e1 := (Stand.of_body B).method
      have e2 := (Stand.of_body B).code
      cases e1.symm.trans hm'
      cases e2.symm.trans hc'
      exact hx
    have hl := lv_entry av (n := maxL) hlen
    obtain ⟨t, a1, o, b1, b2, b3, b4⟩ := h p e s m below meth c _ ⟨B.exec, B.bytes, hml, findClass_of_methodNamed B.named, atoms_spec (ws := Cond.codeWith y cc maxL (some .int) hs :: uWS) B.pre⟩ B.returns B.notSynchronized hK hN hP hT hC hx0 hl s₁ hh0 (Stand.of_body B)
    rw [← lg_entry_eq] at a1
    exact ⟨t, o, a1, b1, b2, b3, b4⟩
section KV
variable {p : Program} {l : Launch} {e : Env} {R : Room} {s : State} {m : MethodId} {args : Array Value} {below : List Frame} {meth : Method} {c : Code} {H : Heap} {locs : List Loc} {cells slots : Nat} {Q : State → Prop}
variable {cc : ByteArray} {pc nL : Nat} {ls : Array Slot} {rest : List Value} {D : va_G} {cl : List vw_C} {tys : List (ClassId × FieldType)} {Ts : List Cond} {own C : String} {ca : Nat → ClassId} {ad : Nat → Nat} {st : xS} {o0 : Nat → Int64}
variable {y : MethodName} {bytes : ByteArray} {maxL fr lo mc ms n index : Nat} {ret : Option FieldType} {As : List Value} {b : Nat}
theorem k_A : ∀ q, uA 165 ad H.size q → uA 166 ad H.size q := by
  rintro q (⟨k, hk, h⟩ | h)
  · exact Or.inl ⟨k, by omega, h⟩
  · exact Or.inr h
theorem k_out {st : kS} (hJ : uJ 166 ad) (hP : va_P D cl (uw 166 ad (kG ca ad st)) H) : ad 165 < H.size ∧ ¬ uA 165 ad H.size (ad 165) := by
  have h1 := uP_lt hP (k := 165) (by decide)
  refine ⟨h1, ?_⟩
  rintro (⟨k, hk, h⟩ | h)
  · have := hJ 165 k (by decide) (by omega) h
    omega
  · exact absurd h1 (Nat.not_lt.mpr h)
/-- what a method of the desk finds, called out of the law's own method -/
theorem kB_at {g0 : Nat → va_E} {av : List Value} (hP0 : va_P D cl (uw 166 ad g0) s.heap) (hP : va_P D cl (uw 166 ad (kG ca ad (st, o0))) H) (hK : va_K D cl tys s) (hN : ∀ w ∈ uNW, va_Nw w s) (hT : tK s) (hS : va_S (uA 166 ad s.heap.size) s.heap H locs) : ∀ U : State, U.heap = H → s.WarmedH U.vm → ∀ (fr : JFrame) (mk : MethodId), va_Pc av (tB D cl tys 165 ad (xG ca ad st) H.size) av.toArray (U.calling fr mk av.toArray) := by
  intro U hU hW fr mk
  obtain ⟨q0, q1, qP, qK, qN⟩ := uB_blind _ U fr mk (uB_at (av := av) (k_sub hP) hK hN U hU hW)
  refine ⟨q0, ⟨q1, qP, qK, qN⟩, ?_⟩
  refine tK_moved (U := s) (V := U.calling fr mk av.toArray) hW (fun q cell h1 h2 => ?_) hT
  show U.heap[q]? = some cell
  rw [hU, hS.2.1 q (Array.getElem?_eq_some_iff.mp h1).1 (fun hA => ?_), h1]
  have := uA_ns hP0 h1 hA
  rw [h2] at this; cases this
/-- x.f(..) of the desk, that returns an int or throws -/
theorem kVi {post : Int32 → xS → Prop} {thr : String → xS → Prop} {g0 : Nat → va_E} (S : CallFix p m c cc nL s args Ts own) (hK : va_K D cl tys s) (hN : ∀ w ∈ uNW, va_Nw w s) (hTK : tK s) (hJ : uJ 166 ad) (hP0 : va_P D cl (uw 166 ad g0) s.heap) (hP : va_P D cl (uw 166 ad (kG ca ad (st, o0))) H) (hS : va_S (uA 166 ad s.heap.size) s.heap H locs) (hM : tMi l y bytes maxL ret fr lo mc ms D cl tys 165 ad (xG ca ad) st (.ref (ad b) :: As) post thr) (hcw : uCW Ts own index y bytes maxL ret n fr lo R) (hI : Cond.instanceMethod y ∈ uWS) (hX : Cond.selects C y y ∈ uWS) (hb : b < 165) {ci : Nat} {q : vw_C} {fs : List Value} (hg : xG ca ad st b = .inr (ci, fs)) (hq : cl[ci]? = some q) (hqC : q.1 = C) (hn : As.length = n) (hls : ls.size = nL) {st0 : List Value} (hst : st0 = As.reverse ++ .ref (ad b) :: rest) (hW : (rest.map fun v => v.category).sum ≤ 8) (hdg : decode cc pc = .ok (.invokevirtual index, 3)) (hc : cells + mc ≤ R.cells) (hs : slots + ms ≤ R.slots)
    (kr : ∀ (r : Int32) (u : xS) (H1 : Heap) (locs1 : List Loc), post r u → va_P D cl (uw 166 ad (kG ca ad (u, o0))) H1 → va_S (uA 166 ad s.heap.size) s.heap H1 locs1 → W p l e R s m args below meth c H1 locs1 (cells + mc) (slots + ms) Q (F0 m (pc + 3) ls (.int r :: rest)))
    (kt : ∀ (x : Nat) (X : String) (u : xS) (cell : Cell) (H1 : Heap) (locs1 : List Loc), thr X u → va_P D cl (uw 166 ad (kG ca ad (u, o0))) H1 → va_S (uA 166 ad s.heap.size) s.heap H1 locs1 → H1[x]? = some cell → cell.vm = .none → s.vm.findClass X = some cell.cls → WT p l e R s m args below meth c H1 locs1 (cells + mc) (slots + ms) Q (F0 m pc ls rest) x) :
    W p l e R s m args below meth c H locs cells slots Q (F0 m pc ls st0) := by
  subst hqC
  intro T hT X
  obtain ⟨hU, hcode, hlink, hini, ⟨hy1, hy2, hlen⟩, hfr, hlo⟩ := hcw
  obtain ⟨hx, hbb, hml, ho, hts⟩ := S
  obtain ⟨cellB, hcB, hoB, hclB⟩ := va_recv hK (k_sub hP) hq (uw_at hb hg)
  obtain ⟨mk, methM, hnamed, hmethM, hstM, habM⟩ := Cond.instanceMethod_spec (hts _ (hU _ hI))
  obtain ⟨methM', cM, hmethM', hcM, -, hlM, -, -, -, hsigM⟩ := Cond.code_spec hnamed (hts _ (hU _ hcode))
  cases hmethM.symm.trans hmethM'
  obtain ⟨c2, r2, m2, q1, q2, q3, q4, kP, hkP, hkPi⟩ := Cond.selects_spec (hts _ (hU _ hX))
  cases hclB.symm.trans q1
  cases (State.methodFound?_of_named hnamed ⟨hy1, hy2⟩).symm.trans q2
  cases hnamed.symm.trans q3
  have hselP : selectMethod e.platform s.vm cellB.cls mk = .method mk := by rw [Launch.admits_selectMethod X.admits]; exact q4
  obtain ⟨vm₁, X₁, hstep₁⟩ := X.invokevirtual hx ho (hts _ (hU _ hlink)) hnamed hmethM hstM hkP hkPi ⟨hy1, hy2⟩ (a := ad b) (cell := cellB) (by rw [hT]; exact hcB)
    (fun z h => by rw [h] at hoB; cases hoB) hselP hmethM habM hkP hkPi (g := F0 m pc ls st0) rfl (argsL := As) (rest := rest) (by rw [hn]; rw [hsigM] at hlen; exact (Option.some.inj hlen).symm) hst (by rw [hbb]; exact hdg)
  have hgood := uGood hU hcode
  obtain ⟨o, s₂, h1, hend, ⟨hqa, hz, hk⟩, L, hE, hL⟩ := tRun (hM H.size) X₁ (g := F0 m pc ls rest) rfl (hls.trans hml.symm) (by rw [hbb]; exact hdg) (a := (Value.ref (ad b) :: As).toArray) (X₁.named hnamed) (by rw [X₁.warmed.alike.method?]; exact hmethM) hcM
    (word_at (U := T.setVm vm₁) X₁.warmed (uWS_good hini) (hts _ (hU _ hini))) (fun w hw => word_at (U := T.setVm vm₁) X₁.warmed (hgood w hw).2 (hts _ (hgood w hw).1)) hfr
    (by rw [hlM]; have h8 := lv_room (m := m) (pc := pc) (ls := ls) (rest := rest) hW; show 2 * (F0 m pc ls rest).monitorRoom + (List.map (fun v => v.category) rest).sum + (maxL + 11) + lo ≤ R.locals; omega) hc hs (kB_at (av := Value.ref (ad b) :: As) hP0 hP hK hN hTK hS (T.setVm vm₁) hT X₁.warmed _ _)
  have hU1 : (T.setVm vm₁).heap = H := hT
  have hz' : H.size ≤ s₂.heap.size := by rw [← hU1]; exact hz
  have hk' : ∀ q : Nat, q < H.size → ¬ uA 165 ad H.size q → s₂.heap[q]? = H[q]? := fun q h1 h2 => by rw [← hU1]; exact hk q (by show q < (T.setVm vm₁).heap.size; rw [hU1]; exact h1) h2
  have hS1 : va_S (uA 166 ad s.heap.size) s.heap s₂.heap (locs ++ L) :=
    ⟨Nat.le_trans hS.1 hz', fun q h1 h2 => by rw [hk' q (Nat.lt_of_lt_of_le h1 hS.1) (fun z => h2 (uKeep hS q (k_A q z)))]; exact hS.2.1 q h1 h2, fun q hq => by
      rcases List.mem_append.mp hq with h | h
      · exact hS.2.2 q h
      · exact uKeep hS _ (k_A _ (hL q h))⟩
  have hout : s₂.heap[ad 165]? = H[ad 165]? := hk' _ (k_out hJ hP).1 (k_out hJ hP).2
  rcases hqa with ⟨r, u, rfl, hp, hTt⟩ | ⟨x, X1, u, cell, rfl, hp, hTt, g1, g2, g3⟩
  · obtain ⟨T', X', hW', -, hs2⟩ := X₁.outOf (g := F0 m pc ls rest) rfl (by rw [hbb]; exact hdg) hend hE.1 hE.2
    have hh : T'.heap = s₂.heap := by rw [hs2]; rfl
    obtain ⟨t, a1, b1⟩ := kr r u T'.heap (locs ++ L) hp (by rw [hh]; exact k_join hP hTt hout) (by rw [hh]; exact hS1) T' rfl X'
    exact ⟨t, hstep₁ _ (fun acts => by rw [doInvoke_state]; exact h1.trans (by rw [hs2]; exact a1)), b1⟩
  · obtain ⟨T', X', hW', -, hs2⟩ := X₁.outOfThrown (g := F0 m pc ls rest) rfl hend hE.1 hE.2
    have hh : T'.heap = s₂.heap := by rw [hs2]; rfl
    obtain ⟨t, a1, b1⟩ := kt x X1 u cell T'.heap (locs ++ L) hp (by rw [hh]; exact k_join hP hTt hout) (by rw [hh]; exact hS1) (by rw [hh]; exact g1) g2 (by
      have h4 : (T.setVm vm₁).vm.findClass X1 = some cell.cls := g3
      rw [X₁.warmed.alike.findClass] at h4; exact h4) T' rfl X'
    exact ⟨t, hstep₁ _ (fun acts => by rw [doInvoke_state]; exact h1.trans (by rw [hs2]; exact a1)), b1⟩
/-- out[0] = x -/
theorem k_last (S : CallFix p m c cc nL s args Ts own) (hK : va_K D cl (tysAll ca) s) (hJ : uJ 166 ad) (hP : va_P D cl (uw 166 ad (kG ca ad (st, o0))) H) (hS : va_S (uA 166 ad s.heap.size) s.heap H locs) {x : Int64} (hdg : decode cc pc = .ok (.lastore, 1))
    (kk : ∀ (H1 : Heap) (locs1 : List Loc), va_P D cl (uw 166 ad (kG ca ad (st, fun j => if j = 0 then x else o0 j))) H1 → va_S (uA 166 ad s.heap.size) s.heap H1 locs1 → W p l e R s m args below meth c H1 locs1 cells slots Q (F0 m (pc + 1) ls rest)) : W p l e R s m args below meth c H locs cells slots Q (F0 m pc ls (.long x :: .int 0 :: .ref (ad 165) :: rest)) := by
  refine va_last S.1 S.2.1 hK hP (uD _ hJ) hS 165 5 (uw_at (by decide) kg_out) rfl (vp_in_nI (show 0 < 1 by decide) (by decide)) hdg (fun H1 locs1 h1 _ h3 => kk H1 locs1 ?_ h3)
  rw [uw_set (by decide)] at h1
  rw [uw_congr (g' := va_up (kG ca ad (st, o0)) 165 (.inl (ca 5, 1, .inr (.inl (vp_updL o0 (0 : Int32).toNatClampNeg x))))) (fun k hk => ?_)]
  · exact h1
  · by_cases h : k = 165
    · subst h; rw [va_up_self]; rfl
    · rw [va_up_ne _ _ h, kg_desk (by omega), kg_desk (by omega)]
end KV
