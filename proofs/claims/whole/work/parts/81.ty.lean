/-! CONTRACTS THAT RETURN OR THROW -/
def tStr : List (Nat × String) := [(84, "no such list or number"), (95, "too many cues or moves"), (239, "no such cue"), (106, "too many moves"), (145, "no such channel"), (160, "no such list"), (165, "no such cue or detail"), (185, "no such playback or tick"), (201, "no list or no such cue"), (211, "no such channel or tick"), (222, "no such playback"), (227, "no such detail")]
/-- what the heap says of Throwable's statics and of the texts -/
def tK (U : State) : Prop :=
  (∃ q : Nat, (∃ cell : Cell, U.heap[q]? = some cell ∧ cell.vm.isStatics = true) ∧ ∀ V : State, U.WarmedH V.vm → V.heap[q]? = U.heap[q]? → ∀ w ∈ tHW, ∀ a : Array Value, w.before a V = true) ∧
  ∀ x ∈ tStr, ∃ a : Nat, vk_R "LightingDesk" x.1 x.2 a U
theorem tK_moved {U V : State} (hW : U.WarmedH V.vm) (hk : ∀ (q : Nat) (cell : Cell), U.heap[q]? = some cell → cell.vm.isStatics = true → V.heap[q]? = some cell) (h : tK U) : tK V := by
  obtain ⟨⟨q, ⟨cell, h1, h2⟩, h3⟩, h4⟩ := h
  refine ⟨⟨q, ⟨cell, hk q cell h1 h2, h2⟩, fun V' hW' he => h3 V' (State.WarmedH.trans hW hW') (by rw [he, hk q cell h1 h2, h1])⟩, fun x hx => ?_⟩
  obtain ⟨a, ha⟩ := h4 x hx
  exact ⟨a, ha.warm hW⟩
theorem tK_use {U : State} (h : tK U) : ∀ w ∈ tHW, ∀ a : Array Value, w.before a U = true := by
  obtain ⟨⟨q, -, h3⟩, -⟩ := h
  exact h3 U (State.WarmedH.refl U) rfl
/-- a world's cell is no class's statics -/
theorem uP_ns {D : va_G} {cl : List vw_C} {N : Nat} {ad : Nat → Nat} {g : Nat → va_E} {H : Heap} (hP : va_P D cl (uw N ad g) H) {k : Nat} (hk : k < N) {cell : Cell} (h : H[ad k]? = some cell) : cell.vm.isStatics = false := by
  have h1 := hP k _ (uw_get hk)
  unfold va_at at h1
  dsimp only at h1
  split at h1
  · rw [h1] at h; cases h; unfold vp_cell; split <;> rfl
  · obtain ⟨r, -, cell', g1, g2, g3, -⟩ := h1
    rw [g1] at h; cases h; rw [g3]; rfl
theorem uA_ns {D : va_G} {cl : List vw_C} {N : Nat} {ad : Nat → Nat} {g : Nat → va_E} {H : Heap} (hP : va_P D cl (uw N ad g) H) {q : Nat} {cell : Cell} (h : H[q]? = some cell) (hA : uA N ad H.size q) : cell.vm.isStatics = false := by
  rcases hA with ⟨k, hk, rfl⟩ | hA
  · exact uP_ns hP hk h
  · exact absurd (Array.getElem?_eq_some_iff.mp h).1 (Nat.not_lt.mpr hA)
def tB (D : va_G) (cl : List vw_C) (tys : List (ClassId × FieldType)) (N : Nat) (ad : Nat → Nat) (g : Nat → va_E) (sz : Nat) (U : State) : Prop := uB D cl tys N ad g sz U ∧ tK U
theorem tB_at {D : va_G} {cl : List vw_C} {tys : List (ClassId × FieldType)} {N : Nat} {ad : Nat → Nat} {g g0 : Nat → va_E} {s : State} {H : Heap} {locs : List Loc} {av : List Value} (hP0 : va_P D cl (uw N ad g0) s.heap) (hP : va_P D cl (uw N ad g) H) (hK : va_K D cl tys s) (hN : ∀ w ∈ uNW, va_Nw w s) (hT : tK s) (hS : va_S (uA N ad s.heap.size) s.heap H locs) : ∀ U : State, U.heap = H → s.WarmedH U.vm → ∀ (fr : JFrame) (mk : MethodId), va_Pc av (tB D cl tys N ad g H.size) av.toArray (U.calling fr mk av.toArray) := by
  intro U hU hW fr mk
  obtain ⟨q0, q1, qP, qK, qN⟩ := uB_blind _ U fr mk (uB_at (av := av) hP hK hN U hU hW)
  refine ⟨q0, ⟨q1, qP, qK, qN⟩, ?_⟩
  refine tK_moved (U := s) (V := U.calling fr mk av.toArray) hW (fun q cell h1 h2 => ?_) hT
  show U.heap[q]? = some cell
  rw [hU, hS.2.1 q (Array.getElem?_eq_some_iff.mp h1).1 (fun hA => ?_), h1]
  have := uA_ns hP0 h1 hA
  rw [h2] at this; cases this
/-- the end: an int, or an exception of the class X -/
def tQ {σ : Type} (D : va_G) (cl : List vw_C) (N : Nat) (ad : Nat → Nat) (G : σ → Nat → va_E) (post : Int32 → σ → Prop) (thr : String → σ → Prop) (A : Nat → Prop) : Array Value → State → Outcome → State → Prop := fun _ st oc t =>
  ((∃ (r : Int32) (u : σ), oc = .returned (some (.int r)) ∧ post r u ∧ uT D cl N ad G u t) ∨
   (∃ (a : Nat) (X : String) (u : σ) (cell : Cell), oc = .threw a ∧ thr X u ∧ uT D cl N ad G u t ∧ t.heap[a]? = some cell ∧ cell.vm = .none ∧ st.vm.findClass X = some cell.cls)) ∧ va_F A st t
def tMi {σ : Type} (l : Launch) (y : MethodName) (cc : ByteArray) (maxL : Nat) (ret : Option FieldType) (fr lo mc ms : Nat) (D : va_G) (cl : List vw_C) (tys : List (ClassId × FieldType)) (N : Nat) (ad : Nat → Nat) (G : σ → Nat → va_E) (st : σ) (av : List Value) (post : Int32 → σ → Prop) (thr : String → σ → Prop) : Prop :=
  ∀ sz : Nat, tMet l y (Cond.code y cc maxL ret :: uWS) { frames := fr, cells := mc, slots := ms, locals := lo } (va_Pc av (tB D cl tys N ad (G st) sz)) (tQ D cl N ad G post thr (uA N ad sz)) mc ms (uA N ad sz)
section TSTART
variable {σ : Type} {l : Launch} {y : MethodName} {cc : ByteArray} {maxL : Nat} {ret : Option FieldType} {fr lo mc ms : Nat} {D : va_G} {cl : List vw_C} {tys : List (ClassId × FieldType)} {N : Nat} {ad : Nat → Nat} {G : σ → Nat → va_E} {st : σ} {av : List Value} {post : Int32 → σ → Prop} {thr : String → σ → Prop}
theorem tStart (hy : plainName y.cls = true) (hlen : (lg_sl av).length ≤ maxL)
    (h : ∀ (p : Program) (e : Env) (s : State) (m : MethodId) (below : List Frame) (meth : Method) (c : Code) (ls : Array Slot), CallFix p m c cc maxL s av.toArray (Cond.code y cc maxL ret :: uWS) y.cls → meth.sig.returnType = ret → meth.locks = false → va_K D cl tys s → (∀ w ∈ uNW, va_Nw w s) → va_P D cl (uw N ad (G st)) s.heap → tK s → c.exceptionTable.toList = [] → lv_has ls maxL (lv_args 0 av) →
      W p l e { frames := fr, cells := mc, slots := ms, locals := lo } s m av.toArray below meth c s.heap [] 0 0 (tMQ below (tQ D cl N ad G post thr (uA N ad s.heap.size)) av.toArray s mc ms (uA N ad s.heap.size)) (F0 m 0 ls [])) :
    tMi l y cc maxL ret fr lo mc ms D cl tys N ad G st av post thr := by
  intro sz
  refine MetFree.of_bodyS (code := cc) (maxLocals := maxL) (ret := ret) hy ?_ ?_
  · intro args s m h hn
    obtain ⟨meth, c, h1, h2, h3, h4, h5, h6, -, -⟩ := Cond.code_spec hn (atoms_spec (ws := Cond.code y cc maxL ret :: uWS) h _ List.mem_cons_self)
    exact ⟨meth, c, h1, h2, h3, h4, h5, h6⟩
  · intro p e s m args below meth c s₁ B hml hv _
    obtain ⟨rfl, ⟨rfl, hP, hK, hN⟩, hT⟩ := hv
    have hh0 : s₁.heap = s.heap := by rw [B.state]; rfl
    have hx0 : c.exceptionTable.toList = [] := by
      obtain ⟨meth', c', hm', hc', -, -, -, -, hempty, -⟩ := Cond.code_spec B.named (atoms_spec (ws := Cond.code y cc maxL ret :: uWS) B.pre _ List.mem_cons_self)
      have e1 := (Stand.of_body B).method
      have e2 := (Stand.of_body B).code
      cases e1.symm.trans hm'
      cases e2.symm.trans hc'
      have h0 : c.exceptionTable.size = 0 := by simpa [Array.isEmpty] using hempty
      exact List.eq_nil_of_length_eq_zero (by simpa using h0)
    have hl := lv_entry av (n := maxL) hlen
    obtain ⟨t, a1, o, b1, b2, b3, b4⟩ := h p e s m below meth c _ ⟨B.exec, B.bytes, hml, findClass_of_methodNamed B.named, atoms_spec (ws := Cond.code y cc maxL ret :: uWS) B.pre⟩ B.returns B.notSynchronized hK hN hP hT hx0 hl s₁ hh0 (Stand.of_body B)
    rw [← lg_entry_eq] at a1
    exact ⟨t, o, a1, b1, b2, b3, b4⟩
end TSTART
section TENDS
variable {σ : Type} {p : Program} {l : Launch} {e : Env} {R : Room} {s : State} {m : MethodId} {args : Array Value} {below : List Frame} {meth : Method} {c : Code} {H : Heap} {locs : List Loc} {cells slots : Nat}
variable {cc : ByteArray} {pc nL mc ms : Nat} {ls : Array Slot} {D : va_G} {cl : List vw_C} {Ts : List Cond} {own : String} {N : Nat} {ad : Nat → Nat} {G : σ → Nat → va_E} {post : Int32 → σ → Prop} {thr : String → σ → Prop}
theorem tIret (S : CallFix p m c cc nL s args Ts own) (hr : meth.sig.returnType = some .int) (hlk : meth.locks = false) {r : Int32} (u : σ) (hc : cells ≤ mc) (hs : slots ≤ ms) (hP : va_P D cl (uw N ad (G u)) H) (hS : va_S (uA N ad s.heap.size) s.heap H locs) (hp : post r u) (hdg : decode cc pc = .ok (.ireturn, 1)) :
    W p l e R s m args below meth c H locs cells slots (tMQ below (tQ D cl N ad G post thr (uA N ad s.heap.size)) args s mc ms (uA N ad s.heap.size)) (F0 m pc ls [.int r]) := by
  refine W.widen hc hs ?_
  refine W.mono (Q := MQ below (tQ D cl N ad G post thr (uA N ad s.heap.size)) args s mc ms (uA N ad s.heap.size)) ?_ (W.iret S.1 S.2.1 hr (fun t ht _ => ⟨Or.inl ⟨r, u, rfl, hp, by show va_P D cl (uw N ad (G u)) t.heap; rw [ht]; exact hP⟩, hS.F ht⟩) hS.2.2 hdg hlk)
  intro t h
  obtain ⟨o, h1, h2, h3, L, h4, h5⟩ := h
  exact ⟨o, h1, h2, h3, L, ⟨h4.2.1, h4.2.2⟩, h5⟩
/-- the walk with a thrown a on its way -/
def WT (p : Program) (l : Launch) (e : Env) (R : Room) (s : State) (m : MethodId) (args : Array Value) (below : List Frame) (meth : Method) (c : Code) (H : Heap) (locs : List Loc) (cells slots : Nat) (Q : State → Prop) (g : JFrame) (a : Nat) : Prop :=
  ∀ T : State, T.heap = H → Stand p l e R s m args below meth c T locs cells slots → ∃ t, Steps p.tables e below ((T.setTop g).pushFrame (.throwing a)) t ∧ Q t
/-- out of the method -/
theorem tLeave (hx0 : c.exceptionTable.toList = []) (hlk : meth.locks = false) {a : Nat} {X : String} {u : σ} {cell : Cell} {st : List Value} (hc : cells ≤ mc) (hs : slots ≤ ms) (hP : va_P D cl (uw N ad (G u)) H) (hS : va_S (uA N ad s.heap.size) s.heap H locs) (hp : thr X u) (h1 : H[a]? = some cell) (h2 : cell.vm = .none) (h3 : s.vm.findClass X = some cell.cls) :
    WT p l e R s m args below meth c H locs cells slots (tMQ below (tQ D cl N ad G post thr (uA N ad s.heap.size)) args s mc ms (uA N ad s.heap.size)) (F0 m pc ls st) a := by
  intro T hT X0
  obtain ⟨k1, k2, k3, k4, k5⟩ := (stand_widen X0 hc hs).leaveThrown a (g := F0 m pc ls st) rfl rfl rfl (by rw [hx0]; intro x hx; cases hx) hlk
  refine ⟨_, k1, _, k2, k3, ⟨Or.inr ⟨a, X, u, cell, rfl, hp, ?_, ?_, h2, h3⟩, hS.F hT⟩, locs, ⟨k4, k5⟩, hS.2.2⟩
  · show va_P D cl (uw N ad (G u)) T.heap
    rw [hT]; exact hP
  · show T.heap[a]? = some cell
    rw [hT]; exact h1
/-- new X("..") and throw -/
theorem tRaise {D0 : va_G} {cl0 : List vw_C} {g0 : Nat → va_E} (S : CallFix p m c cc nL s args Ts own) (hlf : l.flags = pinnedFlags ++ [noTraceFlag]) (hTK : tK s) (hx0 : c.exceptionTable.toList = []) (hlk : meth.locks = false) (hP0 : va_P D0 cl0 (uw N ad g0) s.heap) (u : σ) (hP : va_P D cl (uw N ad (G u)) H) (hS : va_S (uA N ad s.heap.size) s.heap H locs)
    {X tx : String} {ic ix idx sx : Nat} {bytes : ByteArray} (hown : own = "LightingDesk") (hB : ∀ w ∈ tBase, w ∈ Ts) (hO : ∀ w ∈ tOwn own ic X ix bytes, w ∈ Ts) (hX : Bundle.fit X = true)
    (d0 : decode bytes 0 = .ok (.aload_n 0, 1)) (d1 : decode bytes 1 = .ok (.aload_n 1, 1)) (d2 : decode bytes 2 = .ok (.invokespecial ix, 3)) (d5 : decode bytes 5 = .ok (.return_, 1))
    (hcl : Cond.classLink own idx X ∈ Ts) (hsx : (sx, tx) ∈ tStr) (hls : ls.size = nL)
    (e0 : decode cc pc = .ok (.new idx, 3)) (e1 : decode cc (pc + 3) = .ok (.dup, 1)) (e2 : decode cc (pc + 4) = .ok (.ldc sx, 2)) (e3 : decode cc (pc + 6) = .ok (.invokespecial ic, 3)) (e4 : decode cc (pc + 9) = .ok (.athrow, 1))
    (hRf : 5 < R.frames) (hRl : 82 ≤ R.locals) (hc1 : cells + 1 ≤ R.cells) (hs1 : slots + 6 ≤ R.slots) (hc : cells + 1 ≤ mc) (hs : slots + 6 ≤ ms) (hp : thr X u) :
    W p l e R s m args below meth c H locs cells slots (tMQ below (tQ D cl N ad G post thr (uA N ad s.heap.size)) args s mc ms (uA N ad s.heap.size)) (F0 m pc ls []) := by
  subst hown
  refine W.newc (n := 6) S.1 S.2.1 S.2.2.2.1 (S.2.2.2.2 _ hcl) (S.2.2.2.2 _ (hO _ (by simp [tOwn]))) (S.2.2.2.2 _ (hO _ (by simp [tOwn]))) rfl e0 hc1 hs1 ?_
  intro cX kX hfX hkX hord hn6
  refine lv_dup S.1 S.2.1 e1 rfl ?_
  obtain ⟨q, hq⟩ := hTK.2 (sx, tx) hsx
  refine va_ldcS S.1 S.2.1 S.2.2.2.1 hq e2 ?_
  have hsz : s.heap.size ≤ H.size := hS.1
  refine W.widen hc hs ?_
  refine tThrow S hlf (fun w hw => S.2.2.2.2 w (hB w hw)) (fun w hw => S.2.2.2.2 w (hO w hw)) (fun w hw => tK_use hTK w hw _) hX d0 d1 d2 d5 hx0 hlk (fun x hx cell hcell => uA_ns hP0 hcell (hS.2.2 x hx)) hfX hkX (a := H.size) (by rw [Array.getElem?_push_size]) hsz hls e3 e4 hRf hRl hS.2.2 (Or.inr hsz) ?_
  intro t cell ht hcc hcv hW
  have hlt : ∀ k, k < N → t.heap[ad k]? = H[ad k]? := by
    intro k hk
    have h1 := uP_lt hP hk
    rw [ht, Array.getElem?_setIfInBounds_ne (by omega), Array.getElem?_push_lt h1, Array.getElem?_eq_getElem h1]
  refine ⟨Or.inr ⟨H.size, X, u, cell, rfl, hp, uP_kept hP hlt, ?_, hcv, by rw [hcc]; exact hfX⟩, ?_⟩
  · rw [ht]; simp
  · refine ⟨by rw [ht]; simp; omega, fun q' h1 h2 => ?_⟩
    rw [ht, Array.getElem?_setIfInBounds_ne (by omega), Array.getElem?_push_lt (by omega), ← Array.getElem?_eq_getElem]
    exact hS.2.1 q' h1 h2
end TENDS
