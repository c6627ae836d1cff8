/-! UNIFORM WORLDS: a world of N cells; cell k lies at the address ad k and holds g k. -/
def uw (N : Nat) (ad : Nat → Nat) (g : Nat → va_E) : va_W := (List.range N).map (fun k => (ad k, g k))
theorem uw_get {N : Nat} {ad : Nat → Nat} {g : Nat → va_E} {k : Nat} (h : k < N) : (uw N ad g)[k]? = some (ad k, g k) := by
  simp [uw, h]
theorem uw_at {N : Nat} {ad : Nat → Nat} {g : Nat → va_E} {k : Nat} {e : va_E} (h : k < N) (hg : g k = e) : (uw N ad g)[k]? = some (ad k, e) := by
  rw [← hg]; exact uw_get h
theorem uw_inv {N : Nat} {ad : Nat → Nat} {g : Nat → va_E} {k : Nat} {q : Nat × va_E} (h : (uw N ad g)[k]? = some q) : k < N ∧ q = (ad k, g k) := by
  have hl : k < (uw N ad g).length := (List.getElem?_eq_some_iff.mp h).1
  have hk : k < N := by simpa [uw] using hl
  rw [uw_get hk] at h
  exact ⟨hk, (Option.some.inj h).symm⟩
theorem uw_set {N : Nat} {ad : Nat → Nat} {g : Nat → va_E} {k : Nat} {e : va_E} (h : k < N) : (uw N ad g).set k (ad k, e) = uw N ad (va_up g k e) := by
  apply List.ext_getElem?
  intro j
  by_cases hj : k = j
  · subst hj
    rw [List.getElem?_set_self (by simpa [uw] using h), uw_get h]
    simp [va_up]
  · rw [List.getElem?_set_ne hj]
    by_cases h2 : j < N
    · rw [uw_get h2, uw_get h2]
      simp [va_up, Ne.symm hj]
    · rw [List.getElem?_eq_none (by simpa [uw] using h2), List.getElem?_eq_none (by simpa [uw] using h2)]
theorem uw_congr {N : Nat} {ad : Nat → Nat} {g g' : Nat → va_E} (h : ∀ k, k < N → g k = g' k) : uw N ad g = uw N ad g' := by
  unfold uw
  exact List.map_congr_left fun k hk => by rw [h k (List.mem_range.mp hk)]
/-- the addresses are apart -/
def uJ (N : Nat) (ad : Nat → Nat) : Prop := ∀ i j : Nat, i < N → j < N → ad i = ad j → i = j
/-- the cells that a method of this world may change -/
def uA (N : Nat) (ad : Nat → Nat) (sz : Nat) : Nat → Prop := fun q => (∃ k : Nat, k < N ∧ q = ad k) ∨ sz ≤ q
theorem uD {N : Nat} {ad : Nat → Nat} {g : Nat → va_E} (sz : Nat) (h : uJ N ad) : va_D (uA N ad sz) (uw N ad g) := by
  refine ⟨fun i j p q hi hj hpq => ?_, fun k q hk => ?_⟩
  · obtain ⟨h1, rfl⟩ := uw_inv hi
    obtain ⟨h2, rfl⟩ := uw_inv hj
    exact h i j h1 h2 hpq
  · obtain ⟨h1, rfl⟩ := uw_inv hk
    exact Or.inl ⟨k, h1, rfl⟩
theorem uA_mono {N : Nat} {ad : Nat → Nat} {a b : Nat} (h : a ≤ b) : ∀ q, uA N ad b q → uA N ad a q := fun _ hq => hq.elim Or.inl (fun z => Or.inr (Nat.le_trans h z))
theorem uP_lt {D : va_G} {cl : List vw_C} {N : Nat} {ad : Nat → Nat} {g : Nat → va_E} {H : Heap} (hP : va_P D cl (uw N ad g) H) {k : Nat} (hk : k < N) : ad k < H.size := (hP k _ (uw_get hk)).lt
/-- another world, cells unchanged: it stays -/
theorem uP_kept {D : va_G} {cl : List vw_C} {N : Nat} {ad : Nat → Nat} {g : Nat → va_E} {H H1 : Heap} (hP : va_P D cl (uw N ad g) H) (h : ∀ k, k < N → H1[ad k]? = H[ad k]?) : va_P D cl (uw N ad g) H1 := by
  refine hP.kept (fun k q hk => ?_)
  obtain ⟨h1, rfl⟩ := uw_inv hk
  exact h k h1
section UR
variable {p : Program} {l : Launch} {e : Env} {R : Room} {s : State} {m : MethodId} {args : Array Value} {below : List Frame} {meth : Method} {c : Code} {H H0 : Heap} {locs : List Loc} {cells slots : Nat} {Q : State → Prop}
variable {cc : ByteArray} {pc nL : Nat} {ls : Array Slot} {rest : List Value} {D : va_G} {cl : List vw_C} {A : Nat → Prop} {tys : List (ClassId × FieldType)} {Ts : List Cond} {own : String} {N : Nat} {ad : Nat → Nat} {g g' : Nat → va_E}
theorem ur_get (S : CallFix p m c cc nL s args Ts own) (hK : va_K D cl tys s) (hP : va_P D cl (uw N ad g) H) {k : Nat} (hk : k < N) {C : String} {T : u_T} {Nf ci : Nat} {fs : List Value} (hg : g k = .inr (ci, fs)) (hc : cl[ci]? = some (C, T, Nf)) (hin : ∀ w ∈ u_ws C T Nf, w ∈ Ts) (f : Nat) (hf : f < Nf) {index : Nat} (hlink : (Cond.fieldLink own index (T f).1 (T f).2.1 (T f).2.2.1) ∈ Ts) {v : Value} (hv : fs[f]? = some v) (hdg : decode cc pc = .ok (.getfield index, 3))
    (kk : W p l e R s m args below meth c H locs cells slots Q (F0 m (pc + 3) ls (v :: rest))) : W p l e R s m args below meth c H locs cells slots Q (F0 m pc ls (.ref (ad k) :: rest)) :=
  va_get S.1 S.2.1 S.2.2.2.2 hin S.2.2.2.1 hK hP k (uw_at hk hg) hc f hf (S.2.2.2.2 _ hlink) (fun _ h => h) hv hdg kk
theorem ur_getN (S : CallFix p m c cc nL s args Ts own) (hK : va_K D cl tys s) (hP : va_P D cl (uw N ad g) H) {k : Nat} (hk : k < N) {C host : String} {T : u_T} {Nf ci : Nat} {fs : List Value} (hg : g k = .inr (ci, fs)) (hc : cl[ci]? = some (C, T, Nf)) (hin : ∀ w ∈ u_ws C T Nf, w ∈ Ts) (f : Nat) (hf : f < Nf) {index : Nat} (hlink : va_Nw (Cond.fieldLinkNest own index (T f).1 (T f).2.1 (T f).2.2.1 host) s) {v : Value} (hv : fs[f]? = some v) (hdg : decode cc pc = .ok (.getfield index, 3))
    (kk : W p l e R s m args below meth c H locs cells slots Q (F0 m (pc + 3) ls (v :: rest))) : W p l e R s m args below meth c H locs cells slots Q (F0 m pc ls (.ref (ad k) :: rest)) :=
  va_getN S.1 S.2.1 S.2.2.2.2 hin S.2.2.2.1 hK hP k (uw_at hk hg) hc f hf (va_Nw.use rfl hlink) (fun _ h => h) hv hdg kk
theorem ur_put (S : CallFix p m c cc nL s args Ts own) (hK : va_K D cl tys s) (hP : va_P D cl (uw N ad g) H) (hD : va_D A (uw N ad g)) (hS : va_S A H0 H locs) {k : Nat} (hk : k < N) {C : String} {T : u_T} {Nf ci : Nat} {fs : List Value} (hg : g k = .inr (ci, fs)) (hc : cl[ci]? = some (C, T, Nf)) (hin : ∀ w ∈ u_ws C T Nf, w ∈ Ts) (ty0 : Nat → FieldType) (hty : ∀ k, k < Nf → parseFieldDescriptor (T k).2.2.1 = some (ty0 k)) (hnm : ∀ a, a < Nf → ∀ b, b < Nf → a ≠ b → (T a).2.1 ≠ (T b).2.1) (f : Nat) (hf : f < Nf) {index : Nat} (hlink : (Cond.fieldLink own index (T f).1 (T f).2.1 (T f).2.2.1) ∈ Ts) (hfin : (T f).2.2.2 = false) {v : Value} (hn : narrow (ty0 f) v = v) (hfit : fits (ty0 f) v = true) (hl : f < fs.length) (hu : ∀ k', k' < N → va_up g k (.inr (ci, fs.set f v)) k' = g' k') (hdg : decode cc pc = .ok (.putfield index, 3))
    (kk : ∀ (H1 : Heap) (locs1 : List Loc), va_P D cl (uw N ad g') H1 → va_S A H0 H1 locs1 → W p l e R s m args below meth c H1 locs1 cells slots Q (F0 m (pc + 3) ls rest)) : W p l e R s m args below meth c H locs cells slots Q (F0 m pc ls (v :: .ref (ad k) :: rest)) :=
  va_put S.1 S.2.1 S.2.2.2.2 hin ty0 hty hnm S.2.2.2.1 hK hP hD hS k (uw_at hk hg) hc f hf (S.2.2.2.2 _ hlink) (fun _ h => h) hfin (hty f hf) hn hfit hl hdg (fun H1 locs1 h1 _ h3 => kk H1 locs1 (by rw [uw_set hk, uw_congr hu] at h1; exact h1) h3)
theorem ur_putN (S : CallFix p m c cc nL s args Ts own) (hK : va_K D cl tys s) (hP : va_P D cl (uw N ad g) H) (hD : va_D A (uw N ad g)) (hS : va_S A H0 H locs) {k : Nat} (hk : k < N) {C host : String} {T : u_T} {Nf ci : Nat} {fs : List Value} (hg : g k = .inr (ci, fs)) (hc : cl[ci]? = some (C, T, Nf)) (hin : ∀ w ∈ u_ws C T Nf, w ∈ Ts) (ty0 : Nat → FieldType) (hty : ∀ k, k < Nf → parseFieldDescriptor (T k).2.2.1 = some (ty0 k)) (hnm : ∀ a, a < Nf → ∀ b, b < Nf → a ≠ b → (T a).2.1 ≠ (T b).2.1) (f : Nat) (hf : f < Nf) {index : Nat} (hlink : va_Nw (Cond.fieldLinkNest own index (T f).1 (T f).2.1 (T f).2.2.1 host) s) (hfin : (T f).2.2.2 = false) {v : Value} (hn : narrow (ty0 f) v = v) (hfit : fits (ty0 f) v = true) (hl : f < fs.length) (hu : ∀ k', k' < N → va_up g k (.inr (ci, fs.set f v)) k' = g' k') (hdg : decode cc pc = .ok (.putfield index, 3))
    (kk : ∀ (H1 : Heap) (locs1 : List Loc), va_P D cl (uw N ad g') H1 → va_S A H0 H1 locs1 → W p l e R s m args below meth c H1 locs1 cells slots Q (F0 m (pc + 3) ls rest)) : W p l e R s m args below meth c H locs cells slots Q (F0 m pc ls (v :: .ref (ad k) :: rest)) :=
  va_putN S.1 S.2.1 S.2.2.2.2 hin ty0 hty hnm S.2.2.2.1 hK hP hD hS k (uw_at hk hg) hc f hf (va_Nw.use rfl hlink) (fun _ h => h) hfin (hty f hf) hn hfit hl hdg (fun H1 locs1 h1 _ h3 => kk H1 locs1 (by rw [uw_set hk, uw_congr hu] at h1; exact h1) h3)
/-- an int of an array, at the place j -/
theorem ur_iald (S : CallFix p m c cc nL s args Ts own) (hK : va_K D cl tys s) (hP : va_P D cl (uw N ad g) H) {k : Nat} (hk : k < N) (t0 : Nat) {cA : ClassId} {n : Nat} {f : Nat → Int32} (hg : g k = .inl (cA, n, .inl f)) (ht : tys[t0]? = some (cA, .int)) {j : Nat} {i : Int32} (hi : i = nI j) (hj : j < n) (hn : n < 2 ^ 31) (hdg : decode cc pc = .ok (.iaload, 1))
    (kk : W p l e R s m args below meth c H locs cells slots Q (F0 m (pc + 1) ls (.int (f j) :: rest))) : W p l e R s m args below meth c H locs cells slots Q (F0 m pc ls (.int i :: .ref (ad k) :: rest)) := by
  subst hi
  refine va_iald S.1 S.2.1 hK hP k t0 (uw_at hk hg) ht (vp_in_nI hj hn) hdg ?_
  rw [nI_clamp (Nat.lt_trans hj hn)]
  exact kk
theorem ur_zald (S : CallFix p m c cc nL s args Ts own) (hK : va_K D cl tys s) (hP : va_P D cl (uw N ad g) H) {k : Nat} (hk : k < N) (t0 : Nat) {cA : ClassId} {n : Nat} {f : Nat → Int32} (hg : g k = .inl (cA, n, .inl f)) (ht : tys[t0]? = some (cA, .boolean)) {j : Nat} {i : Int32} (hi : i = nI j) (hj : j < n) (hn : n < 2 ^ 31) (hdg : decode cc pc = .ok (.baload, 1))
    (kk : W p l e R s m args below meth c H locs cells slots Q (F0 m (pc + 1) ls (.int (f j) :: rest))) : W p l e R s m args below meth c H locs cells slots Q (F0 m pc ls (.int i :: .ref (ad k) :: rest)) := by
  subst hi
  refine va_zald S.1 S.2.1 hK hP k t0 (uw_at hk hg) ht (vp_in_nI hj hn) hdg ?_
  rw [nI_clamp (Nat.lt_trans hj hn)]
  exact kk
theorem ur_iast (S : CallFix p m c cc nL s args Ts own) (hK : va_K D cl tys s) (hP : va_P D cl (uw N ad g) H) (hD : va_D A (uw N ad g)) (hS : va_S A H0 H locs) {k : Nat} (hk : k < N) (t0 : Nat) {cA : ClassId} {n : Nat} {f : Nat → Int32} (hg : g k = .inl (cA, n, .inl f)) (ht : tys[t0]? = some (cA, .int)) {j : Nat} {i x : Int32} (hi : i = nI j) (hj : j < n) (hn : n < 2 ^ 31) (hu : ∀ k', k' < N → va_up g k (.inl (cA, n, .inl (upd f j x))) k' = g' k') (hdg : decode cc pc = .ok (.iastore, 1))
    (kk : ∀ (H1 : Heap) (locs1 : List Loc), va_P D cl (uw N ad g') H1 → va_S A H0 H1 locs1 → W p l e R s m args below meth c H1 locs1 cells slots Q (F0 m (pc + 1) ls rest)) : W p l e R s m args below meth c H locs cells slots Q (F0 m pc ls (.int x :: .int i :: .ref (ad k) :: rest)) := by
  subst hi
  refine va_iast S.1 S.2.1 hK hP hD hS k t0 (uw_at hk hg) ht (vp_in_nI hj hn) hdg (fun H1 locs1 h1 _ h3 => kk H1 locs1 ?_ h3)
  rw [nI_clamp (Nat.lt_trans hj hn), uw_set hk, uw_congr hu] at h1
  exact h1
theorem ur_zast (S : CallFix p m c cc nL s args Ts own) (hK : va_K D cl tys s) (hP : va_P D cl (uw N ad g) H) (hD : va_D A (uw N ad g)) (hS : va_S A H0 H locs) {k : Nat} (hk : k < N) (t0 : Nat) {cA : ClassId} {n : Nat} {f : Nat → Int32} (hg : g k = .inl (cA, n, .inl f)) (ht : tys[t0]? = some (cA, .boolean)) {j : Nat} {i x : Int32} (hi : i = nI j) (hj : j < n) (hn : n < 2 ^ 31) (hx : vp_nar .boolean x = x) (hu : ∀ k', k' < N → va_up g k (.inl (cA, n, .inl (upd f j x))) k' = g' k') (hdg : decode cc pc = .ok (.bastore, 1))
    (kk : ∀ (H1 : Heap) (locs1 : List Loc), va_P D cl (uw N ad g') H1 → va_S A H0 H1 locs1 → W p l e R s m args below meth c H1 locs1 cells slots Q (F0 m (pc + 1) ls rest)) : W p l e R s m args below meth c H locs cells slots Q (F0 m pc ls (.int x :: .int i :: .ref (ad k) :: rest)) := by
  subst hi
  refine va_zast S.1 S.2.1 hK hP hD hS k t0 (uw_at hk hg) ht (vp_in_nI hj hn) hdg (fun H1 locs1 h1 _ h3 => kk H1 locs1 ?_ h3)
  rw [nI_clamp (Nat.lt_trans hj hn), hx, uw_set hk, uw_congr hu] at h1
  exact h1
/-- a reference out of an array of objects -/
theorem ur_aald (S : CallFix p m c cc nL s args Ts own) (hK : va_K D cl tys s) (hP : va_P D cl (uw N ad g) H) {k : Nat} (hk : k < N) (t0 : Nat) {cA : ClassId} {C : String} {n q : Nat} {f : Nat → Option Nat} (hg : g k = .inl (cA, n, .inr (.inr (.inr (.inr f))))) (ht : tys[t0]? = some (cA, .object C)) {j : Nat} {i : Int32} (hi : i = nI j) (hj : j < n) (hn : n < 2 ^ 31) (hq : f j = some q) (hdg : decode cc pc = .ok (.aaload, 1))
    (kk : W p l e R s m args below meth c H locs cells slots Q (F0 m (pc + 1) ls (.ref q :: rest))) : W p l e R s m args below meth c H locs cells slots Q (F0 m pc ls (.int i :: .ref (ad k) :: rest)) := by
  subst hi
  refine va_aldq S.1 S.2.1 hK hP k t0 (uw_at hk hg) ht (vp_in_nI hj hn) hdg ?_
  rw [nI_clamp (Nat.lt_trans hj hn), hq]
  exact kk
theorem ur_aast (S : CallFix p m c cc nL s args Ts own) (hK : va_K D cl tys s) (hP : va_P D cl (uw N ad g) H) (hD : va_D A (uw N ad g)) (hS : va_S A H0 H locs) {k : Nat} (hk : k < N) (t0 : Nat) {cA : ClassId} {r : vw_C} {n : Nat} {f : Nat → Option Nat} (hg : g k = .inl (cA, n, .inr (.inr (.inr (.inr f))))) (ht : tys[t0]? = some (cA, .object r.1)) {j : Nat} {i : Int32} (hi : i = nI j) (hj : j < n) (hn : n < 2 ^ 31) {kv ci : Nat} (hkv : kv < N) {fs : List Value} (hgv : g kv = .inr (ci, fs)) (hc : cl[ci]? = some r) (hu : ∀ k', k' < N → va_up g k (.inl (cA, n, .inr (.inr (.inr (.inr (va_up f j (some (ad kv)))))))) k' = g' k') (hdg : decode cc pc = .ok (.aastore, 1))
    (kk : ∀ (H1 : Heap) (locs1 : List Loc), va_P D cl (uw N ad g') H1 → va_S A H0 H1 locs1 → W p l e R s m args below meth c H1 locs1 cells slots Q (F0 m (pc + 1) ls rest)) : W p l e R s m args below meth c H locs cells slots Q (F0 m pc ls (.ref (ad kv) :: .int i :: .ref (ad k) :: rest)) := by
  subst hi
  refine va_astq S.1 S.2.1 hK hP hD hS k t0 kv ci (uw_at hk hg) ht (uw_at hkv hgv) hc (vp_in_nI hj hn) hdg (fun H1 locs1 h1 _ h3 => kk H1 locs1 ?_ h3)
  rw [nI_clamp (Nat.lt_trans hj hn), uw_set hk, uw_congr hu] at h1
  exact h1
end UR
