/-! MAKING OBJECTS. A constructor runs on one cell, at the address a; what it makes lies, in order, from the heap's first size on. -/
def bAd (a sz k : Nat) : Nat := if k = 0 then a else sz + (k - 1)
abbrev bA (a sz : Nat) : Nat → Prop := uA 1 (fun _ => a) sz
theorem bAd_s {a sz k : Nat} : bAd a sz (k + 1) = sz + k := by unfold bAd; rw [if_neg (Nat.succ_ne_zero k)]; rfl
theorem bAd_0 {a sz : Nat} : bAd a sz 0 = a := rfl
theorem bJ {a sz N : Nat} (h : a < sz) : uJ N (bAd a sz) := by
  intro i j _ _ hij
  cases i with
  | zero =>
    cases j with
    | zero => rfl
    | succ j => rw [bAd_0, bAd_s] at hij; omega
  | succ i =>
    cases j with
    | zero => rw [bAd_0, bAd_s] at hij; omega
    | succ j => rw [bAd_s, bAd_s] at hij; omega
theorem bIn {a sz k : Nat} : bA a sz (bAd a sz k) := by
  cases k with
  | zero => exact Or.inl ⟨0, by decide, rfl⟩
  | succ k => rw [bAd_s]; exact Or.inr (Nat.le_add_right _ _)
theorem bD {a sz N : Nat} {g : Nat → va_E} (h : a < sz) : va_D (bA a sz) (uw N (bAd a sz) g) := by
  refine ⟨fun i j p q hi hj hpq => ?_, fun k q hk => ?_⟩
  · obtain ⟨h1, rfl⟩ := uw_inv hi
    obtain ⟨h2, rfl⟩ := uw_inv hj
    exact bJ h i j h1 h2 hpq
  · obtain ⟨h1, rfl⟩ := uw_inv hk
    exact bIn
/-- arrays of cues and of players can be made -/
def bX (U : State) : Prop := va_AO "LightingDesk$Cue" U ∧ va_AO "LightingDesk$Player" U
def bB (D : va_G) (cl : List vw_C) (tys : List (ClassId × FieldType)) (a : Nat) (e0 : va_E) (sz : Nat) (U : State) : Prop := uB D cl tys 1 (fun _ => a) (fun _ => e0) sz U ∧ bX U
theorem bB_blind {D : va_G} {cl : List vw_C} {tys : List (ClassId × FieldType)} {a sz : Nat} {e0 : va_E} {av : List Value} : FrameBlind (va_Pc av (bB D cl tys a e0 sz)) := by
  intro b U fr mk q
  obtain ⟨q0, q1, q2, q3⟩ := q
  have h := uB_blind (av := av) b U fr mk ⟨q0, q1⟩
  exact ⟨h.1, h.2, va_AO.moved (u := U) (U := U.calling fr mk b) (Vm.Alike.refl U.vm) q2, va_AO.moved (u := U) (U := U.calling fr mk b) (Vm.Alike.refl U.vm) q3⟩
def uCon (l : Launch) (y : MethodName) (cc : ByteArray) (maxL fr lo mc ms : Nat) (D : va_G) (cl : List vw_C) (tys : List (ClassId × FieldType)) (e0 : va_E) (G1 : Nat → Nat → Nat → va_E) : Prop :=
  ∀ a sz : Nat, a < sz → Met l y (Cond.code y cc maxL none :: uWS) { frames := fr, cells := mc, slots := ms, locals := lo } (va_Pc [.ref a] (bB D cl tys a e0 sz)) (va_Qv (fun _ : Unit => True) (fun _ t => va_P D cl (uw (mc + 1) (bAd a sz) (G1 a sz)) t.heap) (bA a sz)) mc ms (bA a sz)
theorem bStart {l : Launch} {y : MethodName} {cc : ByteArray} {maxL fr lo mc ms : Nat} {D : va_G} {cl : List vw_C} {tys : List (ClassId × FieldType)} {e0 : va_E} {G1 : Nat → Nat → Nat → va_E} (hy : plainName y.cls = true) (hlen : 1 ≤ maxL)
    (h : ∀ (a : Nat) (p : Program) (e : Env) (s : State) (m : MethodId) (below : List Frame) (meth : Method) (c : Code) (ls : Array Slot), a < s.heap.size → CallFix p m c cc maxL s [Value.ref a].toArray (Cond.code y cc maxL none :: uWS) y.cls → meth.sig.returnType = none → meth.locks = false → meth.name = y.name → va_K D cl tys s → (∀ w ∈ uNW, va_Nw w s) → bX s → va_P D cl (uw 1 (bAd a s.heap.size) (fun _ => e0)) s.heap → lv_has ls maxL (lv_args 0 [.ref a]) →
      W p l e { frames := fr, cells := mc, slots := ms, locals := lo } s m [Value.ref a].toArray below meth c s.heap [] 0 0 (MQ below (va_Qv (fun _ : Unit => True) (fun _ t => va_P D cl (uw (mc + 1) (bAd a s.heap.size) (G1 a s.heap.size)) t.heap) (bA a s.heap.size)) [Value.ref a].toArray s mc ms (bA a s.heap.size)) (F0 m 0 ls [])) :
    uCon l y cc maxL fr lo mc ms D cl tys e0 G1 := by
  intro a sz ha
  refine Met.ofW (cc := cc) (maxL := maxL) (ret := none) hy rfl ?_
  intro p e s m args below meth c s₁ B hml hv
  obtain ⟨rfl, ⟨rfl, hP, hK, hN⟩, hX⟩ := hv
  have hl := lv_entry [Value.ref a] (n := maxL) hlen
  rw [lg_entry_eq]
  have hP1 : va_P D cl (uw 1 (bAd a s.heap.size) (fun _ => e0)) s.heap := by
    intro k q hq
    obtain ⟨h1, rfl⟩ := uw_inv hq
    have h0 : k = 0 := by omega
    subst h0
    exact hP 0 _ (uw_get (by decide))
  exact h a p e s m below meth c _ ha ⟨B.exec, B.bytes, hml, findClass_of_methodNamed B.named, atoms_spec (ws := Cond.code y cc maxL none :: uWS) B.pre⟩ B.returns B.notSynchronized (name_of_methodNamed B.named B.method).1 hK hN hX hP1 hl
section BR1
variable {p : Program} {l : Launch} {e : Env} {R : Room} {s : State} {m : MethodId} {args : Array Value} {below : List Frame} {meth : Method} {c : Code} {H : Heap} {locs : List Loc} {cells slots : Nat} {Q : State → Prop}
variable {cc : ByteArray} {pc nL : Nat} {ls : Array Slot} {rest : List Value} {D : va_G} {cl : List vw_C} {tys : List (ClassId × FieldType)} {Ts : List Cond} {own : String} {N a : Nat} {g g' : Nat → va_E}
/-- how large the heap is, when the world's cells are all that were made -/
theorem bSize (hN : N = cells + 1) (hP : va_P D cl (uw N (bAd a s.heap.size) g) H) (hS : va_S (bA a s.heap.size) s.heap H locs) {fr : JFrame} (kk : H.size = s.heap.size + cells → W p l e R s m args below meth c H locs cells slots Q fr) : W p l e R s m args below meth c H locs cells slots Q fr := by
  intro T hT X
  have h1 := X.heapSize
  rw [hT] at h1
  have h2 : s.heap.size + cells ≤ H.size := by
    cases cells with
    | zero => exact hS.1
    | succ k =>
      have h3 := uP_lt hP (k := k + 1) (by omega)
      rw [bAd_s] at h3
      omega
  exact kk (Nat.le_antisymm h1 h2) T hT X
theorem b_add {H1 : Heap} {x : va_E} (hP : va_P D cl (uw N (bAd a s.heap.size) g) H) (o1 : ∀ q, q < H.size → H1[q]? = H[q]?) (hx : va_at D cl (bAd a s.heap.size N, x) H1) (hu : ∀ k, k < N + 1 → va_up g N x k = g' k) : va_P D cl (uw (N + 1) (bAd a s.heap.size) g') H1 := by
  intro k q hq
  obtain ⟨h1, rfl⟩ := uw_inv hq
  rw [← hu k h1]
  by_cases h : k = N
  · subst h
    rw [va_up_self]; exact hx
  · rw [va_up_ne _ _ h]
    have h2 := hP k _ (uw_get (by omega))
    exact h2.kept (o1 _ h2.lt)
theorem bNew {C : String} {T : u_T} {Nf ci index : Nat} {fs : List Value} (S : CallFix p m c cc nL s args Ts own) (hK : va_K D cl tys s) (hP : va_P D cl (uw N (bAd a s.heap.size) g) H) (hS : va_S (bA a s.heap.size) s.heap H locs) (hN : N = cells + 1) (hin : ∀ w ∈ u_ws C T Nf, w ∈ Ts) (ty0 : Nat → FieldType) (hty : ∀ k, k < Nf → parseFieldDescriptor (T k).2.2.1 = some (ty0 k)) (hcl : Cond.classLink own index C ∈ Ts) (hinst : Cond.instantiable C Nf ∈ Ts) (hini : Cond.initialized C ∈ Ts) (hc : cl[ci]? = some (C, T, Nf)) (hfs : ∀ j, j < Nf → defaultValue (ty0 j) = vp_V fs j) (hcells : cells + 1 ≤ R.cells) (hslots : slots + Nf ≤ R.slots) (hu : ∀ k, k < N + 1 → va_up g N (.inr (ci, fs)) k = g' k) (hdg : decode cc pc = .ok (.new index, 3))
    (kk : ∀ H1 : Heap, va_P D cl (uw (N + 1) (bAd a s.heap.size) g') H1 → va_S (bA a s.heap.size) s.heap H1 locs → W p l e R s m args below meth c H1 locs (cells + 1) (slots + Nf) Q (F0 m (pc + 3) ls (.ref (bAd a s.heap.size N) :: rest))) : W p l e R s m args below meth c H locs cells slots Q (F0 m pc ls rest) := by
  refine bSize hN hP hS (fun hz => ?_)
  subst hN
  have hKn := hK.1 ci _ hc
  refine W.newcK (h := s.heap.size + cells) S.1 S.2.1 S.2.2.2.1 (S.2.2.2.2 _ hcl) (S.2.2.2.2 _ hinst) (S.2.2.2.2 _ hini) rfl hdg hcells hslots hKn.2.1 hz (fun H1 kC hkC e1 z1 o1 => ?_)
  rw [bAd_s] at kk
  refine kk H1 (b_add hP (fun q hq => o1 q (by omega)) ?_ hu) ⟨Nat.le_trans hS.1 (by omega), fun x h1 h2 => (o1 x (by omega)).trans (hS.2.1 x h1 h2), hS.2.2⟩
  rw [bAd_s]
  exact ⟨_, hc, (u_born ty0 S.2.2.2.2 hin hKn hkC e1 hty).to hfs⟩
theorem bNewa {atype : ArrayType} {ty : FieldType} {cA0 : ClassId} {n : Int32} {N' : Nat} {a0 : vp_A} (t0 : Nat) (S : CallFix p m c cc nL s args Ts own) (hK : va_K D cl tys s) (hP : va_P D cl (uw N (bAd a s.heap.size) g) H) (hS : va_S (bA a s.heap.size) s.heap H locs) (hN : N = cells + 1) (harr : Cond.arrayClass (newarray.typeOf atype) ∈ Ts) (hty : newarray.typeOf atype = ty) (ht : tys[t0]? = some (cA0, ty)) (hra : va_RA s cA0 ty → s.vm.findClass ("[" ++ ty.toString) = some cA0) (ha : ∀ cA : ClassId, vp_cell cA a0 = arrV cA N' (fun _ => defaultValue ty)) (hn : ¬ n < 0) (hNn : n.toNatClampNeg = N') (hbytes : N' * componentBytes ty ≤ 536870912) (hcells : cells + 1 ≤ R.cells) (hslots : slots + N' ≤ R.slots) (hu : ∀ k, k < N + 1 → va_up g N (.inl (cA0, a0)) k = g' k) (hdg : decode cc pc = .ok (.newarray atype, 2))
    (kk : ∀ H1 : Heap, va_P D cl (uw (N + 1) (bAd a s.heap.size) g') H1 → va_S (bA a s.heap.size) s.heap H1 locs → W p l e R s m args below meth c H1 locs (cells + 1) (slots + N') Q (F0 m (pc + 2) ls (.ref (bAd a s.heap.size N) :: rest))) : W p l e R s m args below meth c H locs cells slots Q (F0 m pc ls (.int n :: rest)) := by
  refine bSize hN hP hS (fun hz => ?_)
  subst hN
  subst hty
  refine va_newaK (h := s.heap.size + cells) S.1 S.2.1 (S.2.2.2.2 _ harr) rfl hdg rfl hn hNn hbytes hcells hslots hz (fun H1 cA e1 z1 o1 hAr hNm => ?_)
  have hcA : cA = cA0 := Option.some.inj (hNm.symm.trans (hra (hK.2 t0 _ ht).2))
  subst hcA
  rw [bAd_s] at kk
  refine kk H1 (b_add hP (fun q hq => o1 q (by omega)) ?_ hu) ⟨Nat.le_trans hS.1 (by omega), fun x h1 h2 => (o1 x (by omega)).trans (hS.2.1 x h1 h2), hS.2.2⟩
  rw [bAd_s]
  show H1[s.heap.size + cells]? = some (vp_cell _ _)
  rw [ha]
  exact e1
theorem bNewq {C : String} {cA0 : ClassId} {index N' : Nat} {n : Int32} (t0 : Nat) (S : CallFix p m c cc nL s args Ts own) (hK : va_K D cl tys s) (hP : va_P D cl (uw N (bAd a s.heap.size) g) H) (hS : va_S (bA a s.heap.size) s.heap H locs) (hN : N = cells + 1) (hcl : Cond.classLink own index C ∈ Ts) (hover : va_AO C s) (ht : tys[t0]? = some (cA0, .object C)) (hn : ¬ n < 0) (hNn : n.toNatClampNeg = N') (hbytes : N' * 4 ≤ 536870912) (hcells : cells + 1 ≤ R.cells) (hslots : slots + N' ≤ R.slots) (hu : ∀ k, k < N + 1 → va_up g N (.inl (cA0, N', .inr (.inr (.inr (.inr (fun _ => none)))))) k = g' k) (hdg : decode cc pc = .ok (.anewarray index, 3))
    (kk : ∀ H1 : Heap, va_P D cl (uw (N + 1) (bAd a s.heap.size) g') H1 → va_S (bA a s.heap.size) s.heap H1 locs → W p l e R s m args below meth c H1 locs (cells + 1) (slots + N') Q (F0 m (pc + 3) ls (.ref (bAd a s.heap.size N) :: rest))) : W p l e R s m args below meth c H locs cells slots Q (F0 m pc ls (.int n :: rest)) := by
  refine bSize hN hP hS (fun hz => ?_)
  subst hN
  subst hNn
  refine W.anew S.1 S.2.1 S.2.2.2.1 (S.2.2.2.2 _ hcl) (va_AO.use hover) rfl hdg rfl hn hbytes hcells hslots (fun cA kA comp f1 f2 f3 f4 => ?_)
  obtain ⟨kA0, comp0, -, -, -, hnm⟩ := (hK.2 t0 _ ht).2
  have hcA : cA = cA0 := Option.some.inj (f1.symm.trans hnm)
  subst hcA
  generalize hH1 : H.push ({ cls := cA, slots := Array.replicate n.toNatClampNeg .null, vm := .none } : Cell) = H1
  have z1 : H1.size = H.size + 1 := by rw [← hH1, Array.size_push]
  have e1 : H1[H.size]? = some (arrV cA n.toNatClampNeg (fun _ => .null)) := by rw [← hH1, Array.getElem?_push_size, ← arrV_new]
  have o1 : ∀ q : Nat, q < H.size → H1[q]? = H[q]? := fun q hq => by rw [← hH1, Array.getElem?_push, if_neg (Nat.ne_of_lt hq)]
  rw [bAd_s, ← hz] at kk
  refine kk H1 (b_add hP o1 ?_ hu) ⟨Nat.le_trans hS.1 (by omega), fun x h1 h2 => (o1 x (Nat.lt_of_lt_of_le h1 hS.1)).trans (hS.2.1 x h1 h2), hS.2.2⟩
  rw [bAd_s, ← hz]
  show H1[H.size]? = some (vp_cell _ _)
  rw [vp_cell_q]
  exact e1
/-- a final field, in a constructor -/
theorem ur_putF {A : Nat → Prop} {ad : Nat → Nat} {H0 : Heap} (S : CallFix p m c cc nL s args Ts own) (hK : va_K D cl tys s) (hP : va_P D cl (uw N ad g) H) (hD : va_D A (uw N ad g)) (hS : va_S A H0 H locs) {k : Nat} (hk : k < N) {C : String} {T : u_T} {Nf ci : Nat} {fs : List Value} (hg : g k = .inr (ci, fs)) (hc : cl[ci]? = some (C, T, Nf)) (hin : ∀ w ∈ u_ws C T Nf, w ∈ Ts) (ty0 : Nat → FieldType) (hty : ∀ k, k < Nf → parseFieldDescriptor (T k).2.2.1 = some (ty0 k)) (hnm : ∀ a, a < Nf → ∀ b, b < Nf → a ≠ b → (T a).2.1 ≠ (T b).2.1) (f : Nat) (hf : f < Nf) {index : Nat} (hlink : (Cond.fieldLink own index (T f).1 (T f).2.1 (T f).2.2.1) ∈ Ts) (hfin : (T f).2.2.2 = true) (hini : meth.name = "<init>") (hdecl : (T f).1 = own) {v : Value} (hn : narrow (ty0 f) v = v) (hfit : fits (ty0 f) v = true) (hl : f < fs.length) (hu : ∀ k', k' < N → va_up g k (.inr (ci, fs.set f v)) k' = g' k') (hdg : decode cc pc = .ok (.putfield index, 3))
    (kk : ∀ (H1 : Heap) (locs1 : List Loc), va_P D cl (uw N ad g') H1 → va_S A H0 H1 locs1 → W p l e R s m args below meth c H1 locs1 cells slots Q (F0 m (pc + 3) ls rest)) : W p l e R s m args below meth c H locs cells slots Q (F0 m pc ls (v :: .ref (ad k) :: rest)) :=
  va_putF S.1 S.2.1 S.2.2.2.2 hin ty0 hty hnm S.2.2.2.1 hK hP hD hS k (uw_at hk hg) hc f hf (S.2.2.2.2 _ hlink) (fun _ h => h) hfin hini hdecl (hty f hf) hn hfit hl hdg (fun H1 locs1 h1 _ h3 => kk H1 locs1 (by rw [uw_set hk, uw_congr hu] at h1; exact h1) h3)
/-- what the constructor of the cell made last finds -/
theorem bPre {b : Nat} {e0 : va_E} (hK : va_K D cl tys s) (hNn : ∀ w ∈ uNW, va_Nw w s) (hX : bX s) (hP : va_P D cl (uw (b + 1) (bAd a s.heap.size) g) H) (hg : g b = e0) : PreS s H (va_Pc [.ref (bAd a s.heap.size b)] (bB D cl tys (bAd a s.heap.size b) e0 H.size)) [.ref (bAd a s.heap.size b)] := by
  have hP1 : va_P D cl (uw 1 (fun _ => bAd a s.heap.size b) (fun _ => e0)) H := by
    intro k q hq
    obtain ⟨h1, rfl⟩ := uw_inv hq
    rw [← hg]
    exact hP b _ (uw_get (by omega))
  exact ⟨bB_blind, fun U hU hW => by
    have h1 := uB_at (av := [.ref (bAd a s.heap.size b)]) hP1 hK hNn U hU hW
    exact ⟨h1.1, h1.2, va_AO.moved hW.alike hX.1, va_AO.moved hW.alike hX.2⟩⟩
theorem bInitR {b mc ms : Nat} {G1 : Nat → Nat → Nat → va_E} {av : Array Value} (ha : a < s.heap.size) (hP : va_P D cl (uw (b + 1) (bAd a s.heap.size) g) H) (hS : va_S (bA a s.heap.size) s.heap H locs) (hb : b = cells) (hrun : va_Run p l e R s m args below meth c H locs cells slots mc ms (F0 m pc ls (.ref (bAd a s.heap.size b) :: rest)) rest (va_Qv (fun _ : Unit => True) (fun _ t => va_P D cl (uw (mc + 1) (bAd (bAd a s.heap.size b) H.size) (G1 (bAd a s.heap.size b) H.size)) t.heap) (bA (bAd a s.heap.size b) H.size) av) (bA (bAd a s.heap.size b) H.size)) (hu : ∀ k, k < b + mc + 1 → (if k < b then g k else G1 (bAd a s.heap.size b) (s.heap.size + b) (k - b)) = g' k)
    (kk : ∀ (H1 : Heap) (locs1 : List Loc), va_P D cl (uw (b + mc + 1) (bAd a s.heap.size) g') H1 → va_S (bA a s.heap.size) s.heap H1 locs1 → W p l e R s m args below meth c H1 locs1 (cells + mc) (slots + ms) Q (F0 m (pc + 3) ls rest)) : W p l e R s m args below meth c H locs cells slots Q (F0 m pc ls (.ref (bAd a s.heap.size b) :: rest)) := by
  refine bSize (N := b + 1) (by omega) hP hS (fun hz => ?_)
  subst hb
  have hsub : ∀ q, bA (bAd a s.heap.size b) H.size q → bA a s.heap.size q := by
    rintro q (⟨i, -, h⟩ | h)
    · rw [h]; exact bIn
    · exact Or.inr (Nat.le_trans hS.1 h)
  refine va_callv hrun hS (fun q _ h => hsub q h) hsub (fun _ t H1 locs1 ht _ _ hB _ hk hS1 => ?_)
  refine kk H1 locs1 ?_ hS1
  rw [ht] at hB
  intro k q hq
  obtain ⟨h1, rfl⟩ := uw_inv hq
  rw [← hu k h1]
  by_cases h : k < b
  · rw [if_pos h]
    have h2 := hP k _ (uw_get (by omega))
    refine h2.kept (hk _ h2.lt ?_)
    rintro (⟨i, -, h3⟩ | h3)
    · have := bJ (N := b + 1) ha k b (by omega) (by omega) h3
      omega
    · exact absurd h2.lt (Nat.not_lt.mpr h3)
  · rw [if_neg h]
    have h2 := hB (k - b) _ (uw_get (by omega))
    have h3 : bAd (bAd a s.heap.size b) H.size (k - b) = bAd a s.heap.size k := by
      by_cases h4 : k = b
      · subst h4; rw [Nat.sub_self]; rfl
      · obtain ⟨d, rfl⟩ : ∃ d, k = b + (d + 1) := ⟨k - b - 1, by omega⟩
        rw [show b + (d + 1) - b = d + 1 by omega, bAd_s, show b + (d + 1) = (b + d) + 1 by omega, bAd_s, hz]
        omega
    rw [h3, hz] at h2
    exact h2
/-- the constructor of the cell made last: linked as any method -/
theorem bInit {b index maxL fr lo mc ms : Nat} {y : MethodName} {bytes : ByteArray} {e0 : va_E} {G1 : Nat → Nat → Nat → va_E} (S : CallFix p m c cc nL s args Ts own) (hK : va_K D cl tys s) (hNn : ∀ w ∈ uNW, va_Nw w s) (hX : bX s) (ha : a < s.heap.size) (hP : va_P D cl (uw (b + 1) (bAd a s.heap.size) g) H) (hS : va_S (bA a s.heap.size) s.heap H locs) (hb : b = cells) (hM : uCon l y bytes maxL fr lo mc ms D cl tys e0 G1) (hg : g b = e0) (hU : ∀ w ∈ uWS, w ∈ Ts) (hcode : Cond.code y bytes maxL none ∈ uWS) (hlink : Cond.methodLink own index y ∈ uWS) (hini : Cond.initialized y.cls ∈ uWS) (hinst : Cond.instanceMethod y ∈ uWS) (hy : y.name = "<init>") (hsig : y.cls ≠ "java/lang/invoke/MethodHandle" ∧ y.cls ≠ "java/lang/invoke/VarHandle" ∧ (parseMethodDescriptor y.desc).map (fun d => d.parameters.length) = some 0) (hfr : fr + 1 ≤ R.frames ∧ 8 + (maxL + 11) + lo ≤ R.locals) (hls : ls.size = nL) (hW : (rest.map fun v => v.category).sum ≤ 8) (hc : cells + mc ≤ R.cells ∧ slots + ms ≤ R.slots) (hu : ∀ k, k < b + mc + 1 → (if k < b then g k else G1 (bAd a s.heap.size b) (s.heap.size + b) (k - b)) = g' k) (hdg : decode cc pc = .ok (.invokespecial index, 3))
    (kk : ∀ (H1 : Heap) (locs1 : List Loc), va_P D cl (uw (b + mc + 1) (bAd a s.heap.size) g') H1 → va_S (bA a s.heap.size) s.heap H1 locs1 → W p l e R s m args below meth c H1 locs1 (cells + mc) (slots + ms) Q (F0 m (pc + 3) ls rest)) : W p l e R s m args below meth c H locs cells slots Q (F0 m pc ls (.ref (bAd a s.heap.size b) :: rest)) :=
  bInitR ha hP hS hb (va_runI (As := []) (n := 0) S (hM (bAd a s.heap.size b) H.size (uP_lt hP (by omega))) ⟨callB_of (R := R) (mc := mc) (ms := ms) (rm := { frames := fr, cells := mc, slots := ms, locals := lo }) 0 S.2.2.2.2 (uGood hU hcode) rfl rfl rfl (S.2.2.2.2 _ (hU _ hini)) (S.2.2.2.2 _ (hU _ hlink)) hsig hfr, hy, S.2.2.2.2 _ (hU _ hinst)⟩ (bPre hK hNn hX hP hg) rfl rfl hls rfl (lv_room hW) hdg hc) hu kk
/-- the same, linked as a nest mate -/
theorem bInitN {b index maxL fr lo mc ms : Nat} {y : MethodName} {host : String} {bytes : ByteArray} {e0 : va_E} {G1 : Nat → Nat → Nat → va_E} (S : CallFix p m c cc nL s args Ts own) (hK : va_K D cl tys s) (hNn : ∀ w ∈ uNW, va_Nw w s) (hX : bX s) (ha : a < s.heap.size) (hP : va_P D cl (uw (b + 1) (bAd a s.heap.size) g) H) (hS : va_S (bA a s.heap.size) s.heap H locs) (hb : b = cells) (hM : uCon l y bytes maxL fr lo mc ms D cl tys e0 G1) (hg : g b = e0) (hU : ∀ w ∈ uWS, w ∈ Ts) (hcode : Cond.code y bytes maxL none ∈ uWS) (hlink : Cond.methodLinkNest own index y host ∈ uNW) (hini : Cond.initialized y.cls ∈ uWS) (hinst : Cond.instanceMethod y ∈ uWS) (hy : y.name = "<init>") (hsig : y.cls ≠ "java/lang/invoke/MethodHandle" ∧ y.cls ≠ "java/lang/invoke/VarHandle" ∧ (parseMethodDescriptor y.desc).map (fun d => d.parameters.length) = some 0) (hfr : fr + 1 ≤ R.frames ∧ 8 + (maxL + 11) + lo ≤ R.locals) (hls : ls.size = nL) (hW : (rest.map fun v => v.category).sum ≤ 8) (hc : cells + mc ≤ R.cells ∧ slots + ms ≤ R.slots) (hu : ∀ k, k < b + mc + 1 → (if k < b then g k else G1 (bAd a s.heap.size b) (s.heap.size + b) (k - b)) = g' k) (hdg : decode cc pc = .ok (.invokespecial index, 3))
    (kk : ∀ (H1 : Heap) (locs1 : List Loc), va_P D cl (uw (b + mc + 1) (bAd a s.heap.size) g') H1 → va_S (bA a s.heap.size) s.heap H1 locs1 → W p l e R s m args below meth c H1 locs1 (cells + mc) (slots + ms) Q (F0 m (pc + 3) ls rest)) : W p l e R s m args below meth c H locs cells slots Q (F0 m pc ls (.ref (bAd a s.heap.size b) :: rest)) :=
  bInitR ha hP hS hb (va_runIN (As := []) (n := 0) S (hM (bAd a s.heap.size b) H.size (uP_lt hP (by omega))) ⟨va_cnB (R := R) (mc := mc) (ms := ms) (rm := { frames := fr, cells := mc, slots := ms, locals := lo }) 0 S.2.2.2.2 (uGood hU hcode) rfl rfl rfl (hNn _ hlink) (S.2.2.2.2 _ (hU _ hini)) hsig hfr, hy, S.2.2.2.2 _ (hU _ hinst)⟩ (bPre hK hNn hX hP hg) rfl rfl hls rfl (lv_room hW) hdg hc) hu kk
end BR1
