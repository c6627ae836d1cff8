/-! CONTRACTS IN A UNIFORM WORLD. The words of every method: its own code, and all good words of the tables. -/
def uWS : List Cond := lw_tbl.filter goodWord
theorem uWS_mem {w : Cond} (h : w ∈ lw_tbl) (hg : goodWord w = true) : w ∈ uWS := List.mem_filter.mpr ⟨h, hg⟩
theorem uWS_in {w : Cond} (h : w ∈ uWS) : w ∈ lw_tbl := (List.mem_filter.mp h).1
theorem uWS_good {w : Cond} (h : w ∈ uWS) : (w.onTables && w.keeps) = true ∨ ∃ ty, w = .arrayClass ty := good_of_word (List.mem_filter.mp h).2
theorem uGood {Ts : List Cond} (hT : ∀ w ∈ uWS, w ∈ Ts) {y : MethodName} {b : ByteArray} {n : Nat} {r : Option FieldType} (h : Cond.code y b n r ∈ uWS) : GoodIn Ts (Cond.code y b n r :: uWS) := by
  intro w hw
  rcases List.mem_cons.mp hw with rfl | hw
  · exact ⟨hT _ h, uWS_good h⟩
  · exact ⟨hT w hw, uWS_good hw⟩
/-- words on links between nest mates: they hold of the tables, and stay -/
def uNest : Cond → Bool
  | .fieldLinkNest .. => true
  | .methodLinkNest .. => true
  | _ => false
theorem uNest_on {w : Cond} (h : uNest w = true) : w.onTables = true := by
  cases w <;> first | rfl | cases h
theorem uNest_warm {w : Cond} (h : uNest w = true) {s U : State} (hW : s.WarmedH U.vm) (hz : va_Nw w s) : va_Nw w U := by
  cases w <;> first | exact va_Nw.warmF hW hz | exact va_Nw.warmM hW hz | cases h
def uNW : List Cond := lw_tbl.filter uNest
theorem uNW_mem {w : Cond} (h : w ∈ lw_tbl) (hg : uNest w = true) : w ∈ uNW := List.mem_filter.mpr ⟨h, hg⟩
/-- what a method finds: the world g, the tables -/
def uB (D : va_G) (cl : List vw_C) (tys : List (ClassId × FieldType)) (N : Nat) (ad : Nat → Nat) (g : Nat → va_E) (sz : Nat) (U : State) : Prop :=
  U.heap.size = sz ∧ va_P D cl (uw N ad g) U.heap ∧ va_K D cl tys U ∧ ∀ w ∈ uNW, va_Nw w U
theorem uB_blind {D : va_G} {cl : List vw_C} {tys : List (ClassId × FieldType)} {N : Nat} {ad : Nat → Nat} {g : Nat → va_E} {sz : Nat} {av : List Value} : FrameBlind (va_Pc av (uB D cl tys N ad g sz)) := by
  intro a U fr mk q
  obtain ⟨q0, q1, qP, qK, qN⟩ := q
  exact ⟨q0, q1, qP, va_K.moved (u := U) (U := U.calling fr mk a) (Vm.Alike.refl U.vm) qK, fun w hw => va_Nw.same (u := U) (U := U.calling fr mk a) (uNest_on (List.mem_filter.mp hw).2) rfl (qN w hw)⟩
theorem uB_at {D : va_G} {cl : List vw_C} {tys : List (ClassId × FieldType)} {N : Nat} {ad : Nat → Nat} {g : Nat → va_E} {s : State} {H : Heap} {av : List Value} (hP : va_P D cl (uw N ad g) H) (hK : va_K D cl tys s) (hN : ∀ w ∈ uNW, va_Nw w s) : ∀ U : State, U.heap = H → s.WarmedH U.vm → va_Pc av (uB D cl tys N ad g H.size) av.toArray U :=
  fun U hU hW => ⟨rfl, by rw [hU], by rw [hU]; exact hP, va_K.moved hW.alike hK, fun w hw => uNest_warm (List.mem_filter.mp hw).2 hW (hN w hw)⟩
/-- the world behind a method -/
def uT {σ : Type} (D : va_G) (cl : List vw_C) (N : Nat) (ad : Nat → Nat) (G : σ → Nat → va_E) (u : σ) (t : State) : Prop := va_P D cl (uw N ad (G u)) t.heap
section UMET
variable {σ : Type} (l : Launch) (y : MethodName) (cc : ByteArray) (maxL : Nat) (ret : Option FieldType) (fr lo : Nat) (D : va_G) (cl : List vw_C) (tys : List (ClassId × FieldType)) (N : Nat) (ad : Nat → Nat) (G : σ → Nat → va_E) (st : σ) (av : List Value)
/-- contracts: an int (or boolean) answer; none; a reference -/
def uMi (post : Int32 → σ → Prop) : Prop := ∀ sz : Nat, Met l y (Cond.code y cc maxL ret :: uWS) { frames := fr, cells := 0, slots := 0, locals := lo } (va_Pc av (uB D cl tys N ad (G st) sz)) (va_Qi post (uT D cl N ad G) (uA N ad sz)) 0 0 (uA N ad sz)
def uMv (post : σ → Prop) : Prop := ∀ sz : Nat, Met l y (Cond.code y cc maxL ret :: uWS) { frames := fr, cells := 0, slots := 0, locals := lo } (va_Pc av (uB D cl tys N ad (G st) sz)) (va_Qv post (uT D cl N ad G) (uA N ad sz)) 0 0 (uA N ad sz)
def uMr (post : Nat → σ → Prop) : Prop := ∀ sz : Nat, Met l y (Cond.code y cc maxL ret :: uWS) { frames := fr, cells := 0, slots := 0, locals := lo } (va_Pc av (uB D cl tys N ad (G st) sz)) (va_Qr (fun _ : σ => True) (fun u a t => post a u ∧ uT D cl N ad G u t) (uA N ad sz)) 0 0 (uA N ad sz)
end UMET
section UENTRY
variable {σ : Type} {l : Launch} {y : MethodName} {cc : ByteArray} {maxL : Nat} {ret : Option FieldType} {fr lo : Nat} {D : va_G} {cl : List vw_C} {tys : List (ClassId × FieldType)} {N : Nat} {ad : Nat → Nat} {G : σ → Nat → va_E} {st : σ} {av : List Value}
/-- a body, from its entry: what it has -/
def uBody (l : Launch) (y : MethodName) (cc : ByteArray) (maxL : Nat) (ret : Option FieldType) (fr lo : Nat) (D : va_G) (cl : List vw_C) (tys : List (ClassId × FieldType)) (N : Nat) (ad : Nat → Nat) (G : σ → Nat → va_E) (st : σ) (av : List Value) (Qc : Nat → Array Value → State → Outcome → State → Prop) : Prop :=
  ∀ (p : Program) (e : Env) (s : State) (m : MethodId) (below : List Frame) (meth : Method) (c : Code) (ls : Array Slot), CallFix p m c cc maxL s av.toArray (Cond.code y cc maxL ret :: uWS) y.cls → meth.sig.returnType = ret → meth.locks = false → va_K D cl tys s → (∀ w ∈ uNW, va_Nw w s) → va_P D cl (uw N ad (G st)) s.heap → lv_has ls maxL (lv_args 0 av) →
    W p l e { frames := fr, cells := 0, slots := 0, locals := lo } s m av.toArray below meth c s.heap [] 0 0 (MQ below (Qc s.heap.size) av.toArray s 0 0 (uA N ad s.heap.size)) (F0 m 0 ls [])
theorem uStart {Qc : Nat → Array Value → State → Outcome → State → Prop} (hy : plainName y.cls = true) (hlen : (lg_sl av).length ≤ maxL) (h : uBody l y cc maxL ret fr lo D cl tys N ad G st av Qc) (sz : Nat) : Met l y (Cond.code y cc maxL ret :: uWS) { frames := fr, cells := 0, slots := 0, locals := lo } (va_Pc av (uB D cl tys N ad (G st) sz)) (Qc sz) 0 0 (uA N ad sz) := by
  refine Met.ofW (cc := cc) (maxL := maxL) (ret := ret) hy rfl ?_
  intro p e s m args below meth c s₁ B hml hv
  obtain ⟨rfl, rfl, hP, hK, hN⟩ := hv
  have hl := lv_entry av (n := maxL) hlen
  rw [lg_entry_eq]
  exact h p e s m below meth c _ ⟨B.exec, B.bytes, hml, findClass_of_methodNamed B.named, atoms_spec (ws := Cond.code y cc maxL ret :: uWS) B.pre⟩ B.returns B.notSynchronized hK hN hP hl
end UENTRY
section UENDS
variable {σ : Type} {p : Program} {l : Launch} {e : Env} {R : Room} {s : State} {m : MethodId} {args : Array Value} {below : List Frame} {meth : Method} {c : Code} {H : Heap} {locs : List Loc}
variable {cc : ByteArray} {pc nL : Nat} {ls : Array Slot} {D : va_G} {cl : List vw_C} {Ts : List Cond} {own : String} {N : Nat} {ad : Nat → Nat} {G : σ → Nat → va_E}
theorem uIret {post : Int32 → σ → Prop} (S : CallFix p m c cc nL s args Ts own) (hr : meth.sig.returnType = some .int) (hlk : meth.locks = false) {r : Int32} (u : σ) (hP : va_P D cl (uw N ad (G u)) H) (hS : va_S (uA N ad s.heap.size) s.heap H locs) (hp : post r u) (hdg : decode cc pc = .ok (.ireturn, 1)) :
    W p l e R s m args below meth c H locs 0 0 (MQ below (va_Qi post (uT D cl N ad G) (uA N ad s.heap.size)) args s 0 0 (uA N ad s.heap.size)) (F0 m pc ls [.int r]) :=
  W.iret S.1 S.2.1 hr (fun t ht _ => ⟨⟨r, u, rfl, hp, by show va_P D cl (uw N ad (G u)) t.heap; rw [ht]; exact hP⟩, hS.F ht⟩) hS.2.2 hdg hlk
theorem uZret {post : Int32 → σ → Prop} (S : CallFix p m c cc nL s args Ts own) (hr : meth.sig.returnType = some .boolean) (hlk : meth.locks = false) {r : Int32} (hn : narrow .boolean (.int r) = .int r) (u : σ) (hP : va_P D cl (uw N ad (G u)) H) (hS : va_S (uA N ad s.heap.size) s.heap H locs) (hp : post r u) (hdg : decode cc pc = .ok (.ireturn, 1)) :
    W p l e R s m args below meth c H locs 0 0 (MQ below (va_Qi post (uT D cl N ad G) (uA N ad s.heap.size)) args s 0 0 (uA N ad s.heap.size)) (F0 m pc ls [.int r]) :=
  W.zret S.1 S.2.1 hr hn (fun t ht _ => ⟨⟨r, u, rfl, hp, by show va_P D cl (uw N ad (G u)) t.heap; rw [ht]; exact hP⟩, hS.F ht⟩) hS.2.2 hdg hlk
theorem uVret {post : σ → Prop} (S : CallFix p m c cc nL s args Ts own) (hr : meth.sig.returnType = none) (hlk : meth.locks = false) (u : σ) (hP : va_P D cl (uw N ad (G u)) H) (hS : va_S (uA N ad s.heap.size) s.heap H locs) (hp : post u) (hdg : decode cc pc = .ok (.return_, 1)) :
    W p l e R s m args below meth c H locs 0 0 (MQ below (va_Qv post (uT D cl N ad G) (uA N ad s.heap.size)) args s 0 0 (uA N ad s.heap.size)) (F0 m pc ls []) :=
  W.vret S.1 S.2.1 hr (fun t ht _ => ⟨⟨u, rfl, hp, by show va_P D cl (uw N ad (G u)) t.heap; rw [ht]; exact hP⟩, hS.F ht⟩) hS.2.2 hdg hlk
theorem uRret {post : Nat → σ → Prop} {rt : String} (S : CallFix p m c cc nL s args Ts own) (hr : meth.sig.returnType = some (.object rt)) (hlk : meth.locks = false) {q : Nat} (u : σ) (hP : va_P D cl (uw N ad (G u)) H) (hS : va_S (uA N ad s.heap.size) s.heap H locs) (hp : post q u) (hdg : decode cc pc = .ok (.areturn, 1)) :
    W p l e R s m args below meth c H locs 0 0 (MQ below (va_Qr (fun _ : σ => True) (fun u a t => post a u ∧ uT D cl N ad G u t) (uA N ad s.heap.size)) args s 0 0 (uA N ad s.heap.size)) (F0 m pc ls [.ref q]) :=
  W.aret S.1 S.2.1 hr (Or.inl ⟨rt, rfl⟩) (Or.inr ⟨q, rfl⟩) (fun t ht _ => ⟨⟨u, q, rfl, trivial, hp, by show va_P D cl (uw N ad (G u)) t.heap; rw [ht]; exact hP⟩, hS.F ht⟩) hS.2.2 hdg hlk
end UENDS
section UCALLS
variable {σ : Type} {p : Program} {l : Launch} {e : Env} {R : Room} {s : State} {m : MethodId} {args : Array Value} {below : List Frame} {meth : Method} {c : Code} {H : Heap} {locs : List Loc} {cells slots : Nat} {Q : State → Prop}
variable {cc : ByteArray} {pc nL : Nat} {ls : Array Slot} {rest : List Value} {D : va_G} {cl : List vw_C} {tys : List (ClassId × FieldType)} {Ts : List Cond} {own C : String} {N : Nat} {ad : Nat → Nat} {G : σ → Nat → va_E} {st : σ}
variable {y : MethodName} {bytes : ByteArray} {maxL fr lo n index : Nat} {ret : Option FieldType} {As : List Value} {b : Nat}
theorem uKeep (hS : va_S (uA N ad s.heap.size) s.heap H locs) : ∀ q, uA N ad H.size q → uA N ad s.heap.size q := uA_mono hS.1
/-- what a call of a public or package method asks: words by their places in the list -/
def uCW (Ts : List Cond) (own : String) (index : Nat) (y : MethodName) (bytes : ByteArray) (maxL : Nat) (ret : Option FieldType) (n fr lo : Nat) (R : Room) : Prop :=
  (∀ w ∈ uWS, w ∈ Ts) ∧ Cond.code y bytes maxL ret ∈ uWS ∧ Cond.methodLink own index y ∈ uWS ∧ Cond.initialized y.cls ∈ uWS ∧ (y.cls ≠ "java/lang/invoke/MethodHandle" ∧ y.cls ≠ "java/lang/invoke/VarHandle" ∧ (parseMethodDescriptor y.desc).map (fun d => d.parameters.length) = some n) ∧ fr + 1 ≤ R.frames ∧ 8 + (maxL + 11) + lo ≤ R.locals
theorem uCB (S : CallFix p m c cc nL s args Ts own) (h : uCW Ts own index y bytes maxL ret n fr lo R) : CallB R s args own index y bytes maxL ret (Cond.code y bytes maxL ret :: uWS) { frames := fr, cells := 0, slots := 0, locals := lo } 0 0 n := by
  obtain ⟨h0, h1, h2, h3, h4, h5, h6⟩ := h
  exact callB_of n S.2.2.2.2 (uGood h0 h1) rfl rfl rfl (S.2.2.2.2 _ (h0 _ h3)) (S.2.2.2.2 _ (h0 _ h2)) h4 ⟨h5, h6⟩
theorem uRunV {Pc : Array Value → State → Prop} {Qc : Array Value → State → Outcome → State → Prop} {free : Addr → Prop} (S : CallFix p m c cc nL s args Ts own) (hcw : uCW Ts own index y bytes maxL ret n fr lo R) (hI : Cond.instanceMethod y ∈ uWS) (hX : Cond.selects C y y ∈ uWS) (hM : Met l y (Cond.code y bytes maxL ret :: uWS) { frames := fr, cells := 0, slots := 0, locals := lo } Pc Qc 0 0 free) (hp : PreV s H C b Pc As) (hn : As.length = n) (hls : ls.size = nL) {st0 : List Value} (hst : st0 = As.reverse ++ .ref b :: rest) (hW : (rest.map fun v => v.category).sum ≤ 8) (hdg : decode cc pc = .ok (.invokevirtual index, 3)) (hc : cells ≤ R.cells ∧ slots ≤ R.slots) :
    va_Run p l e R s m args below meth c H locs cells slots 0 0 (F0 m pc ls st0) rest (Qc (Value.ref b :: As).toArray) free :=
  va_runV S hM ⟨uCB S hcw, S.2.2.2.2 _ (hcw.1 _ hI), S.2.2.2.2 _ (hcw.1 _ hX)⟩ hp rfl hn hls hst (lv_room hW) hdg hc
theorem uRunS {Pc : Array Value → State → Prop} {Qc : Array Value → State → Outcome → State → Prop} {free : Addr → Prop} (S : CallFix p m c cc nL s args Ts own) (hcw : uCW Ts own index y bytes maxL ret n fr lo R) (hI : Cond.static y ∈ uWS) (hM : Met l y (Cond.code y bytes maxL ret :: uWS) { frames := fr, cells := 0, slots := 0, locals := lo } Pc Qc 0 0 free) (hp : PreS s H Pc As) (hn : As.length = n) (hls : ls.size = nL) {st0 : List Value} (hst : st0 = As.reverse ++ rest) (hW : (rest.map fun v => v.category).sum ≤ 8) (hdg : decode cc pc = .ok (.invokestatic index, 3)) (hc : cells ≤ R.cells ∧ slots ≤ R.slots) :
    va_Run p l e R s m args below meth c H locs cells slots 0 0 (F0 m pc ls st0) rest (Qc As.toArray) free :=
  va_runS S hM ⟨uCB S hcw, S.2.2.2.2 _ (hcw.1 _ hI)⟩ hp rfl hn hls hst (lv_room hW) hdg hc
/-- x.f(..) with an int answer, on an object of the same world -/
theorem uVi {post : Int32 → σ → Prop} (S : CallFix p m c cc nL s args Ts own) (hK : va_K D cl tys s) (hN : ∀ w ∈ uNW, va_Nw w s) (hP : va_P D cl (uw N ad (G st)) H) (hS : va_S (uA N ad s.heap.size) s.heap H locs) (hM : uMi l y bytes maxL ret fr lo D cl tys N ad G st (.ref (ad b) :: As) post) (hcw : uCW Ts own index y bytes maxL ret n fr lo R) (hI : Cond.instanceMethod y ∈ uWS) (hX : Cond.selects C y y ∈ uWS) (hb : b < N) {ci : Nat} {q : vw_C} {fs : List Value} (hg : G st b = .inr (ci, fs)) (hq : cl[ci]? = some q) (hqC : q.1 = C) (hn : As.length = n) (hls : ls.size = nL) {st0 : List Value} (hst : st0 = As.reverse ++ .ref (ad b) :: rest) (hW : (rest.map fun v => v.category).sum ≤ 8) (hdg : decode cc pc = .ok (.invokevirtual index, 3)) (hc : cells ≤ R.cells ∧ slots ≤ R.slots)
    (kk : ∀ (r : Int32) (u : σ) (H1 : Heap) (locs1 : List Loc), post r u → va_P D cl (uw N ad (G u)) H1 → va_S (uA N ad s.heap.size) s.heap H1 locs1 → W p l e R s m args below meth c H1 locs1 cells slots Q (F0 m (pc + 3) ls (.int r :: rest))) : W p l e R s m args below meth c H locs cells slots Q (F0 m pc ls st0) := by
  subst hqC
  refine va_calli (uRunV S hcw hI hX (hM H.size) ⟨uB_blind, va_recv hK hP hq (uw_at hb hg), uB_at hP hK hN⟩ hn hls hst hW hdg hc) hS (fun q _ h => uKeep hS q h) (uKeep hS) (fun r u t H1 locs1 ht _ hp hB _ _ hS1 => ?_)
  exact kk r u H1 locs1 hp (by have h9 : va_P D cl (uw N ad (G u)) t.heap := hB; rw [ht] at h9; exact h9) hS1
theorem uVv {post : σ → Prop} (S : CallFix p m c cc nL s args Ts own) (hK : va_K D cl tys s) (hN : ∀ w ∈ uNW, va_Nw w s) (hP : va_P D cl (uw N ad (G st)) H) (hS : va_S (uA N ad s.heap.size) s.heap H locs) (hM : uMv l y bytes maxL ret fr lo D cl tys N ad G st (.ref (ad b) :: As) post) (hcw : uCW Ts own index y bytes maxL ret n fr lo R) (hI : Cond.instanceMethod y ∈ uWS) (hX : Cond.selects C y y ∈ uWS) (hb : b < N) {ci : Nat} {q : vw_C} {fs : List Value} (hg : G st b = .inr (ci, fs)) (hq : cl[ci]? = some q) (hqC : q.1 = C) (hn : As.length = n) (hls : ls.size = nL) {st0 : List Value} (hst : st0 = As.reverse ++ .ref (ad b) :: rest) (hW : (rest.map fun v => v.category).sum ≤ 8) (hdg : decode cc pc = .ok (.invokevirtual index, 3)) (hc : cells ≤ R.cells ∧ slots ≤ R.slots)
    (kk : ∀ (u : σ) (H1 : Heap) (locs1 : List Loc), post u → va_P D cl (uw N ad (G u)) H1 → va_S (uA N ad s.heap.size) s.heap H1 locs1 → W p l e R s m args below meth c H1 locs1 cells slots Q (F0 m (pc + 3) ls rest)) : W p l e R s m args below meth c H locs cells slots Q (F0 m pc ls st0) := by
  subst hqC
  refine va_callv (uRunV S hcw hI hX (hM H.size) ⟨uB_blind, va_recv hK hP hq (uw_at hb hg), uB_at hP hK hN⟩ hn hls hst hW hdg hc) hS (fun q _ h => uKeep hS q h) (uKeep hS) (fun u t H1 locs1 ht _ hp hB _ _ hS1 => ?_)
  exact kk u H1 locs1 hp (by have h9 : va_P D cl (uw N ad (G u)) t.heap := hB; rw [ht] at h9; exact h9) hS1
/-- a static method with an int answer -/
theorem uSi {post : Int32 → σ → Prop} (S : CallFix p m c cc nL s args Ts own) (hK : va_K D cl tys s) (hN : ∀ w ∈ uNW, va_Nw w s) (hP : va_P D cl (uw N ad (G st)) H) (hS : va_S (uA N ad s.heap.size) s.heap H locs) (hM : uMi l y bytes maxL ret fr lo D cl tys N ad G st As post) (hcw : uCW Ts own index y bytes maxL ret n fr lo R) (hI : Cond.static y ∈ uWS) (hn : As.length = n) (hls : ls.size = nL) {st0 : List Value} (hst : st0 = As.reverse ++ rest) (hW : (rest.map fun v => v.category).sum ≤ 8) (hdg : decode cc pc = .ok (.invokestatic index, 3)) (hc : cells ≤ R.cells ∧ slots ≤ R.slots)
    (kk : ∀ (r : Int32) (u : σ) (H1 : Heap) (locs1 : List Loc), post r u → va_P D cl (uw N ad (G u)) H1 → va_S (uA N ad s.heap.size) s.heap H1 locs1 → W p l e R s m args below meth c H1 locs1 cells slots Q (F0 m (pc + 3) ls (.int r :: rest))) : W p l e R s m args below meth c H locs cells slots Q (F0 m pc ls st0) := by
  refine va_calli (uRunS S hcw hI (hM H.size) ⟨uB_blind, uB_at hP hK hN⟩ hn hls hst hW hdg hc) hS (fun q _ h => uKeep hS q h) (uKeep hS) (fun r u t H1 locs1 ht _ hp hB _ _ hS1 => ?_)
  exact kk r u H1 locs1 hp (by have h9 : va_P D cl (uw N ad (G u)) t.heap := hB; rw [ht] at h9; exact h9) hS1
theorem uSv {post : σ → Prop} (S : CallFix p m c cc nL s args Ts own) (hK : va_K D cl tys s) (hN : ∀ w ∈ uNW, va_Nw w s) (hP : va_P D cl (uw N ad (G st)) H) (hS : va_S (uA N ad s.heap.size) s.heap H locs) (hM : uMv l y bytes maxL ret fr lo D cl tys N ad G st As post) (hcw : uCW Ts own index y bytes maxL ret n fr lo R) (hI : Cond.static y ∈ uWS) (hn : As.length = n) (hls : ls.size = nL) {st0 : List Value} (hst : st0 = As.reverse ++ rest) (hW : (rest.map fun v => v.category).sum ≤ 8) (hdg : decode cc pc = .ok (.invokestatic index, 3)) (hc : cells ≤ R.cells ∧ slots ≤ R.slots)
    (kk : ∀ (u : σ) (H1 : Heap) (locs1 : List Loc), post u → va_P D cl (uw N ad (G u)) H1 → va_S (uA N ad s.heap.size) s.heap H1 locs1 → W p l e R s m args below meth c H1 locs1 cells slots Q (F0 m (pc + 3) ls rest)) : W p l e R s m args below meth c H locs cells slots Q (F0 m pc ls st0) := by
  refine va_callv (uRunS S hcw hI (hM H.size) ⟨uB_blind, uB_at hP hK hN⟩ hn hls hst hW hdg hc) hS (fun q _ h => uKeep hS q h) (uKeep hS) (fun u t H1 locs1 ht _ hp hB _ _ hS1 => ?_)
  exact kk u H1 locs1 hp (by have h9 : va_P D cl (uw N ad (G u)) t.heap := hB; rw [ht] at h9; exact h9) hS1
end UCALLS
/-! LOOPS -/
theorem upTo {P : Nat → Prop} (n : Nat) (h0 : P n) (hs : ∀ i, i < n → P (i + 1) → P i) : ∀ i, i ≤ n → P i := by
  intro i hi
  obtain ⟨d, rfl⟩ : ∃ d, n = i + d := ⟨n - i, by omega⟩
  induction d generalizing i with
  | zero => exact h0
  | succ d ih => exact hs i (by omega) (ih (i + 1) (by rw [show i + 1 + d = i + (d + 1) by omega]; exact h0) (fun j hj => hs j (by omega)) (by omega))
theorem downTo {P : Nat → Prop} (h0 : P 0) (hs : ∀ i, P i → P (i + 1)) : ∀ i, P i := fun i => Nat.rec h0 hs i
section UGOALS
variable {σ : Type}
/-- a walk's goal, in a method with an int answer, none, a reference -/
abbrev uGi (fr lo : Nat) (D : va_G) (cl : List vw_C) (N : Nat) (ad : Nat → Nat) (G : σ → Nat → va_E) (post : Int32 → σ → Prop) (av : List Value) (p : Program) (l : Launch) (e : Env) (s : State) (m : MethodId) (below : List Frame) (meth : Method) (c : Code) (H : Heap) (locs : List Loc) (pc : Nat) (ls : Array Slot) (stk : List Value) : Prop :=
  W p l e { frames := fr, cells := 0, slots := 0, locals := lo } s m av.toArray below meth c H locs 0 0 (MQ below (va_Qi post (uT D cl N ad G) (uA N ad s.heap.size)) av.toArray s 0 0 (uA N ad s.heap.size)) (F0 m pc ls stk)
abbrev uGv (fr lo : Nat) (D : va_G) (cl : List vw_C) (N : Nat) (ad : Nat → Nat) (G : σ → Nat → va_E) (post : σ → Prop) (av : List Value) (p : Program) (l : Launch) (e : Env) (s : State) (m : MethodId) (below : List Frame) (meth : Method) (c : Code) (H : Heap) (locs : List Loc) (pc : Nat) (ls : Array Slot) (stk : List Value) : Prop :=
  W p l e { frames := fr, cells := 0, slots := 0, locals := lo } s m av.toArray below meth c H locs 0 0 (MQ below (va_Qv post (uT D cl N ad G) (uA N ad s.heap.size)) av.toArray s 0 0 (uA N ad s.heap.size)) (F0 m pc ls stk)
abbrev uGr (fr lo : Nat) (D : va_G) (cl : List vw_C) (N : Nat) (ad : Nat → Nat) (G : σ → Nat → va_E) (post : Nat → σ → Prop) (av : List Value) (p : Program) (l : Launch) (e : Env) (s : State) (m : MethodId) (below : List Frame) (meth : Method) (c : Code) (H : Heap) (locs : List Loc) (pc : Nat) (ls : Array Slot) (stk : List Value) : Prop :=
  W p l e { frames := fr, cells := 0, slots := 0, locals := lo } s m av.toArray below meth c H locs 0 0 (MQ below (va_Qr (fun _ : σ => True) (fun u a t => post a u ∧ uT D cl N ad G u t) (uA N ad s.heap.size)) av.toArray s 0 0 (uA N ad s.heap.size)) (F0 m pc ls stk)
end UGOALS
section UREF
variable {σ : Type} {p : Program} {l : Launch} {e : Env} {R : Room} {s : State} {m : MethodId} {args : Array Value} {below : List Frame} {meth : Method} {c : Code} {H : Heap} {locs : List Loc} {cells slots : Nat} {Q : State → Prop}
variable {cc : ByteArray} {pc nL : Nat} {ls : Array Slot} {rest : List Value} {D : va_G} {cl : List vw_C} {tys : List (ClassId × FieldType)} {Ts : List Cond} {own C : String} {N : Nat} {ad : Nat → Nat} {G : σ → Nat → va_E} {st : σ}
variable {y : MethodName} {bytes : ByteArray} {maxL fr lo n index : Nat} {ret : Option FieldType} {As : List Value} {b : Nat}
/-- x.f(..) whose answer is a reference -/
theorem uVr {post : Nat → σ → Prop} (S : CallFix p m c cc nL s args Ts own) (hK : va_K D cl tys s) (hN : ∀ w ∈ uNW, va_Nw w s) (hP : va_P D cl (uw N ad (G st)) H) (hS : va_S (uA N ad s.heap.size) s.heap H locs) (hM : uMr l y bytes maxL ret fr lo D cl tys N ad G st (.ref (ad b) :: As) post) (hcw : uCW Ts own index y bytes maxL ret n fr lo R) (hI : Cond.instanceMethod y ∈ uWS) (hX : Cond.selects C y y ∈ uWS) (hb : b < N) {ci : Nat} {q : vw_C} {fs : List Value} (hg : G st b = .inr (ci, fs)) (hq : cl[ci]? = some q) (hqC : q.1 = C) (hn : As.length = n) (hls : ls.size = nL) {st0 : List Value} (hst : st0 = As.reverse ++ .ref (ad b) :: rest) (hW : (rest.map fun v => v.category).sum ≤ 8) (hdg : decode cc pc = .ok (.invokevirtual index, 3)) (hc : cells ≤ R.cells ∧ slots ≤ R.slots)
    (kk : ∀ (r : Nat) (u : σ) (H1 : Heap) (locs1 : List Loc), post r u → va_P D cl (uw N ad (G u)) H1 → va_S (uA N ad s.heap.size) s.heap H1 locs1 → W p l e R s m args below meth c H1 locs1 cells slots Q (F0 m (pc + 3) ls (.ref r :: rest))) : W p l e R s m args below meth c H locs cells slots Q (F0 m pc ls st0) := by
  subst hqC
  refine va_callr (uRunV S hcw hI hX (hM H.size) ⟨uB_blind, va_recv hK hP hq (uw_at hb hg), uB_at hP hK hN⟩ hn hls hst hW hdg hc) hS (fun q _ h => uKeep hS q h) (uKeep hS) (fun u r t H1 locs1 ht _ _ hB _ _ hS1 => ?_)
  exact kk r u H1 locs1 hB.1 (by have h9 : va_P D cl (uw N ad (G u)) t.heap := hB.2; rw [ht] at h9; exact h9) hS1
/-- a static method without answer, on one cell of the world: the array at the cell k -/
theorem uSv1 {τ : Type} {G1 : τ → Nat → va_E} {f1 : τ} {g' : τ → σ} {post : τ → Prop} (S : CallFix p m c cc nL s args Ts own) (hK : va_K D cl tys s) (hN : ∀ w ∈ uNW, va_Nw w s) (hJ : uJ N ad) (hP : va_P D cl (uw N ad (G st)) H) (hS : va_S (uA N ad s.heap.size) s.heap H locs) (k : Nat) (hk : k < N) (hM : uMv l y bytes maxL ret fr lo D cl tys 1 (fun _ => ad k) G1 f1 As post) (hg1 : G1 f1 0 = G st k) (hgo : ∀ u k', k' < N → G (g' u) k' = if k' = k then G1 u 0 else G st k') (hcw : uCW Ts own index y bytes maxL ret n fr lo R) (hI : Cond.static y ∈ uWS) (hn : As.length = n) (hls : ls.size = nL) {st0 : List Value} (hst : st0 = As.reverse ++ rest) (hW : (rest.map fun v => v.category).sum ≤ 8) (hdg : decode cc pc = .ok (.invokestatic index, 3)) (hc : cells ≤ R.cells ∧ slots ≤ R.slots)
    (kk : ∀ (u : τ) (H1 : Heap) (locs1 : List Loc), post u → va_P D cl (uw N ad (G (g' u))) H1 → va_S (uA N ad s.heap.size) s.heap H1 locs1 → W p l e R s m args below meth c H1 locs1 cells slots Q (F0 m (pc + 3) ls rest)) : W p l e R s m args below meth c H locs cells slots Q (F0 m pc ls st0) := by
  have hP1 : va_P D cl (uw 1 (fun _ => ad k) (G1 f1)) H := by
    intro i q hq
    obtain ⟨h1, rfl⟩ := uw_inv hq
    have h0 : i = 0 := by omega
    subst h0
    rw [hg1]
    exact hP k _ (uw_get hk)
  have hin : ∀ q, uA 1 (fun _ => ad k) H.size q → uA N ad s.heap.size q := by
    intro q hq
    rcases hq with ⟨i, -, h⟩ | h
    · exact Or.inl ⟨k, hk, h⟩
    · exact Or.inr (Nat.le_trans hS.1 h)
  refine va_callv (uRunS S hcw hI (hM H.size) ⟨uB_blind, uB_at hP1 hK hN⟩ hn hls hst hW hdg hc) hS (fun q _ h => hin q h) hin (fun u t H1 locs1 ht _ hp hB _ hkp hS1 => ?_)
  refine kk u H1 locs1 hp ?_ hS1
  have hB1 : va_P D cl (uw 1 (fun _ => ad k) (G1 u)) H1 := by rw [← ht]; exact hB
  intro i q hq
  obtain ⟨h1, rfl⟩ := uw_inv hq
  rw [hgo u i h1]
  by_cases h2 : i = k
  · subst h2
    rw [if_pos rfl]
    exact hB1 0 _ (uw_get (by decide))
  · rw [if_neg h2]
    have h3 := hP i _ (uw_get h1)
    refine h3.kept (hkp _ h3.lt ?_)
    rintro (⟨z, -, h4⟩ | h4)
    · exact h2 (hJ i k h1 hk h4)
    · exact absurd h3.lt (Nat.not_lt.mpr h4)
end UREF
