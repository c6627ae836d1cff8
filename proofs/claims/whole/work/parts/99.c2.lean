/-! THE LAW'S WALK: what holds of the tables at its entry -/
theorem lw_K {a : Array Value} {s : State} (hts : ∀ w ∈ lw_tbl, w.before a s = true) : ∃ (D : va_G) (ca : Nat → ClassId), va_K D clsAll (tysAll ca) s := by
  have hu : ∀ w ∈ uWS, w.before a s = true := fun w hw => hts w (uWS_in hw)
  obtain ⟨c0, i0, k0⟩ := u_known (C := "LightingDesk$ValueRow") (T := F_V) (N := 2) (n := 2) hu in_V (hu _ t1_27)
  obtain ⟨c1, i1, k1⟩ := u_known (C := "LightingDesk$PaletteBox") (T := F_P) (N := 1) (n := 1) hu in_P (hu _ t1_48)
  obtain ⟨c2, i2, k2⟩ := u_known (C := "LightingDesk$Cue") (T := F_C) (N := 7) (n := 7) hu in_C (hu _ t1_66)
  obtain ⟨c3, i3, k3⟩ := u_known (C := "LightingDesk$CueBook") (T := F_B) (N := 2) (n := 2) hu in_B (hu _ t1_59)
  obtain ⟨c4, i4, k4⟩ := u_known (C := "LightingDesk$Player") (T := F_Y) (N := 10) (n := 10) hu in_Y (hu _ t1_116)
  obtain ⟨c5, i5, k5⟩ := u_known (C := "LightingDesk") (T := F_D) (N := 7) (n := 7) hu in_D (hu _ t1_19)
  obtain ⟨c6, i6, k6⟩ := u_known (C := "LightingDeskModel") (T := F_M) (N := 24) (n := 24) hu in_M (hu _ t3_155)
  obtain ⟨aI, kI, pI0, f1, f2, f3⟩ := Cond.arrayClass_spec (hu _ t1_46)
  obtain ⟨aZ, kZ, pZ0, g1, g2, g3⟩ := Cond.arrayClass_spec (hu _ t1_45)
  obtain ⟨aS, kS0, pS0, s1, s2, s3⟩ := Cond.arrayClass_spec (hu _ t3_233)
  obtain ⟨aJ, kJ0, pJ0, j1, j2, j3⟩ := Cond.arrayClass_spec (hu _ t4_179)
  obtain ⟨pC, aC, kC, m1, -, m2, m3, m4⟩ := Cond.arrayOver_spec (hts (Cond.arrayOver (.object "LightingDesk$Cue")) (tm1 (List.mem_of_getElem? (i := 65) rfl)))
  obtain ⟨pY, aY, kY, n1, -, n2, n3, n4⟩ := Cond.arrayOver_spec (hts (Cond.arrayOver (.object "LightingDesk$Player")) (tm1 (List.mem_of_getElem? (i := 115) rfl)))
  refine ⟨(fun k => [c0, c1, c2, c3, c4, c5, c6].getD k 0, fun k => [i0, i1, i2, i3, i4, i5, i6].getD k (fun _ => 0)), fun k => [aI, aZ, aC, aY, aS, aJ].getD k 0, ?_, ?_⟩
  · intro k q hq
    have hk : k < 7 := (List.getElem?_eq_some_iff.mp hq).1
    rcases (by omega : k = 0 ∨ k = 1 ∨ k = 2 ∨ k = 3 ∨ k = 4 ∨ k = 5 ∨ k = 6) with rfl | rfl | rfl | rfl | rfl | rfl | rfl <;> cases hq
    · exact k0
    · exact k1
    · exact k2
    · exact k3
    · exact k4
    · exact k5
    · exact k6
  · intro k q hq
    have hk : k < 6 := (List.getElem?_eq_some_iff.mp hq).1
    rcases (by omega : k = 0 ∨ k = 1 ∨ k = 2 ∨ k = 3 ∨ k = 4 ∨ k = 5) with rfl | rfl | rfl | rfl | rfl | rfl <;> cases hq
    · exact ⟨fun n z => ⟨fun k h => (by cases h), kI, f2, pI0, f3⟩, f1⟩
    · exact ⟨fun n z => ⟨fun k h => (by cases h), kZ, g2, pZ0, g3⟩, g1⟩
    · exact ⟨fun n z => ⟨fun k h => (by cases h), kC, m2, pC, m3⟩, kC, pC, m2, m3, m1, m4⟩
    · exact ⟨fun n z => ⟨fun k h => (by cases h), kY, n2, pY, n3⟩, kY, pY, n2, n3, n1, n4⟩
    · exact ⟨fun n z => ⟨fun k h => (by cases h), kS0, s2, pS0, s3⟩, s1⟩
    · exact ⟨fun n z => ⟨fun k h => (by cases h), kJ0, j2, pJ0, j3⟩, j1⟩
theorem lw_X {a : Array Value} {s : State} (hts : ∀ w ∈ lw_tbl, w.before a s = true) : bX s := ⟨va_AO.of (hts _ (tm1 (List.mem_of_getElem? (i := 65) rfl))), va_AO.of (hts _ (tm1 (List.mem_of_getElem? (i := 115) rfl)))⟩
theorem lw_N {a : Array Value} {s : State} (hts : ∀ w ∈ lw_tbl, w.before a s = true) : ∀ w ∈ uNW, va_Nw w s := by
  intro w hw
  obtain ⟨h1, h2⟩ := List.mem_filter.mp hw
  exact va_tabs (uNest_on h2) rfl (hts w h1)
