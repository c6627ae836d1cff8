/-! AT THE LAW'S ENTRY -/
theorem tK_lays {owner name desc : String} {a a' : Array Value} {s V : State} {q : Nat} (h : (Cond.laysStatic owner name desc).before a s = true) (hW : s.WarmedH V.vm) (hq : ∀ c k i f, s.fieldFound? owner name desc = some (c, k, i, f) → k.statics = some q) (hh : V.heap[q]? = s.heap[q]?) : (Cond.laysStatic owner name desc).before a' V = true := by
  obtain ⟨c, k, i, f, a0, cell, h1, h2, h3, h4, h5, h6, h7, h8, h9⟩ := Cond.laysStatic_spec h
  have hqa : a0 = q := Option.some.inj (h4.symm.trans (hq c k i f h2))
  subst hqa
  obtain ⟨k', h2', he⟩ := State.fieldFound?_setVm (s := s) hW.alike h2
  have h2V : V.fieldFound? owner name desc = some (c, k', i, f) := h2'
  have h1V : V.vm.findClass owner = some c := by rw [hW.alike.findClass]; exact h1
  have h4V : k'.statics = some a0 := by rw [he]; exact h4
  have h9V : k'.staticTypes[f.slot]? = some f.type := by rw [he]; exact h9
  have h5V : V.heap[a0]? = some cell := by rw [hh]; exact h5
  simp [Cond.before, Cond.holds, Cond.value, h1V, h2V, h3, h4V, h5V, h6, h7, h8, h9V]
theorem tK_isref {owner name desc : String} {a a' : Array Value} {s V : State} {q : Nat} (h0 : (Cond.laysStatic owner name desc).before a s = true) (h : (Cond.isRef (.static owner name desc)).before a s = true) (hW : s.WarmedH V.vm) (hq : ∀ c k i f, s.fieldFound? owner name desc = some (c, k, i, f) → k.statics = some q) (hh : V.heap[q]? = s.heap[q]?) : (Cond.isRef (.static owner name desc)).before a' V = true := by
  obtain ⟨c, k, i, f, a0, cell, h1, h2, h3, h4, h5, h6, h7, h8, h9⟩ := Cond.laysStatic_spec h0
  have hqa : a0 = q := Option.some.inj (h4.symm.trans (hq c k i f h2))
  subst hqa
  obtain ⟨k', h2', he⟩ := State.fieldFound?_setVm (s := s) hW.alike h2
  have h2V : V.fieldFound? owner name desc = some (c, k', i, f) := h2'
  have h4V : k'.statics = some a0 := by rw [he]; exact h4
  have h5V : V.heap[a0]? = some cell := by rw [hh]; exact h5
  have e1 : (Term.static owner name desc).eval a s none [] s = cell.slots[f.slot]? := by
    simp [Term.eval, State.fieldNamed?, h2, h3, h4, h5, h6]
  have e2 : (Term.static owner name desc).eval a' V none [] V = cell.slots[f.slot]? := by
    simp [Term.eval, State.fieldNamed?, h2V, h3, h4V, h5V, h6]
  simp only [Cond.before, Cond.holds, Cond.value] at h ⊢
  rw [e1] at h
  rw [e2]
  exact h
theorem tK_start {a : Array Value} {s : State} (hH : ∀ w ∈ tHW, w.before a s = true) (hT : ∀ x ∈ tStr, (Cond.stringRef "LightingDesk" x.1 x.2).before a s = true) {cD : ClassId} (hD : s.vm.findClass "LightingDesk" = some cD) : tK s := by
  have l1 := hH (.laysStatic Bundle.tN "UNASSIGNED_STACK" Bundle.steD) (by simp [tHW])
  have l2 := hH (.laysStatic Bundle.tN "SUPPRESSED_SENTINEL" Bundle.listD) (by simp [tHW])
  have r1 := hH (.isRef (.static Bundle.tN "UNASSIGNED_STACK" Bundle.steD)) (by simp [tHW])
  have r2 := hH (.isRef (.static Bundle.tN "SUPPRESSED_SENTINEL" Bundle.listD)) (by simp [tHW])
  obtain ⟨c, k, i, f, q, cell, h1, h2, h3, h4, h5, h6, -⟩ := Cond.laysStatic_spec l1
  obtain ⟨c', k', i', f', q', cell', h1', h2', h3', h4', h5', h6', -⟩ := Cond.laysStatic_spec l2
  cases h1.symm.trans h1'
  have hk := (State.fieldFound?_spec h2).1
  have hk' := (State.fieldFound?_spec h2').1
  cases hk.symm.trans hk'
  cases h4.symm.trans h4'
  refine ⟨⟨q, ⟨cell, h5, h6⟩, fun V hW hh w hw a' => ?_⟩, fun x hx => ?_⟩
  · have hq1 : ∀ c k i f, s.fieldFound? Bundle.tN "UNASSIGNED_STACK" Bundle.steD = some (c, k, i, f) → k.statics = some q := fun c2 k2 i2 f2 h => by
      rw [h2] at h; cases h; exact h4
    have hq2 : ∀ c k i f, s.fieldFound? Bundle.tN "SUPPRESSED_SENTINEL" Bundle.listD = some (c, k, i, f) → k.statics = some q := fun c2 k2 i2 f2 h => by
      rw [h2'] at h; cases h; exact h4
    simp only [tHW, List.mem_cons, List.not_mem_nil, or_false] at hw
    rcases hw with rfl | rfl | rfl | rfl
    · exact tK_lays l1 hW hq1 hh
    · exact tK_lays l2 hW hq2 hh
    · exact tK_isref l1 r1 hW hq1 hh
    · exact tK_isref l2 r2 hW hq2 hh
  · have h := hT x hx
    obtain ⟨-, -, -, sa, -, -, -, -, -, hev⟩ := Cond.stringRef_spec hD h
    exact ⟨sa, vk_R.of h hev⟩
