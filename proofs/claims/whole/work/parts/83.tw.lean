/-! The exceptions' words stand in the tables -/
theorem tW_in {L : List Cond} (h : L.all (fun w => decide (w ∈ lw_tbl) && goodWord w) = true) : ∀ w ∈ L, w ∈ uWS := by
  intro w hw
  have h1 := List.all_eq_true.mp h w hw
  simp only [Bool.and_eq_true, decide_eq_true_eq] at h1
  exact uWS_mem h1.1 h1.2
theorem tBase_in : ∀ w ∈ tBase, w ∈ uWS := tW_in (by decide +kernel)
theorem tIA_in : ∀ w ∈ tOwn "LightingDesk" 86 tIA 7 Bundle.six, w ∈ uWS := tW_in (by decide +kernel)
theorem tIS_in : ∀ w ∈ tOwn "LightingDesk" 97 tIS 7 Bundle.six, w ∈ uWS := tW_in (by decide +kernel)
theorem tNS_in : ∀ w ∈ tOwn "LightingDesk" 203 tNS 13 six13, w ∈ uWS := tW_in (by decide +kernel)
theorem tIO_in : ∀ w ∈ tOwn "LightingDesk" 147 tIO 7 Bundle.six, w ∈ uWS := tW_in (by decide +kernel)
theorem s13_0 : decode six13 0 = .ok (.aload_n 0, 1) := by decide +kernel
theorem s13_1 : decode six13 1 = .ok (.aload_n 1, 1) := by decide +kernel
theorem s13_2 : decode six13 2 = .ok (.invokespecial 13, 3) := by decide +kernel
theorem s13_5 : decode six13 5 = .ok (.return_, 1) := by decide +kernel
theorem tcl_82 : Cond.classLink "LightingDesk" 82 tIA ∈ uWS := tW_in (L := [Cond.classLink "LightingDesk" 82 tIA]) (by decide +kernel) _ (List.mem_singleton.mpr rfl)
theorem tcl_93 : Cond.classLink "LightingDesk" 93 tIS ∈ uWS := tW_in (L := [Cond.classLink "LightingDesk" 93 tIS]) (by decide +kernel) _ (List.mem_singleton.mpr rfl)
theorem tcl_199 : Cond.classLink "LightingDesk" 199 tNS ∈ uWS := tW_in (L := [Cond.classLink "LightingDesk" 199 tNS]) (by decide +kernel) _ (List.mem_singleton.mpr rfl)
theorem tcl_143 : Cond.classLink "LightingDesk" 143 tIO ∈ uWS := tW_in (L := [Cond.classLink "LightingDesk" 143 tIO]) (by decide +kernel) _ (List.mem_singleton.mpr rfl)
