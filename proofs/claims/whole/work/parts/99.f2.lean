theorem lw_nc {a : Array Value} {s : State} (h : (Jvm.Cond.and given_1 narrow_1).before a s = true) : kNC s := by
  have hs := flat_of_before _ h
  refine kNC_of (a := a) (fun q hq => ?_)
  simp only [kPairs, List.mem_cons, List.not_mem_nil, or_false] at hq
  rcases hq with rfl | rfl | rfl | rfl
  · exact hs _ (by decide +kernel)
  · exact hs _ (by decide +kernel)
  · exact hs _ (by decide +kernel)
  · exact hs _ (by decide +kernel)
theorem lw_tk {a : Array Value} {s : State} (hts : ∀ w ∈ lw_tbl, w.before a s = true) (h : (Jvm.Cond.and given_1 narrow_1).before a s = true) {cD : ClassId} (hD : s.vm.findClass "LightingDesk" = some cD) : tK s := by
  have hs := flat_of_before _ h
  refine tK_start (a := a) (fun w hw => ?_) (fun x hx => ?_) hD
  · simp only [tHW, List.mem_cons, List.not_mem_nil, or_false] at hw
    rcases hw with rfl | rfl | rfl | rfl
    · exact hts _ (by decide +kernel)
    · exact hts _ (by decide +kernel)
    · exact hs _ (by decide +kernel)
    · exact hs _ (by decide +kernel)
  · have h2 : tStr.all (fun x => decide (Cond.stringRef "LightingDesk" x.1 x.2 ∈ lw_tbl)) = true := by decide +kernel
    exact hts _ (of_decide_eq_true (List.all_eq_true.mp h2 x hx))
