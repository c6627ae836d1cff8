/-! THE FIRST STATES -/
def vI : Nat → Nat → Nat → Int32 := fun f j i =>
  if f = 3 then (if i < 1024 then -1 else 0) else if f = 10 then -1 else if f = 11 then -1 else if f = 15 then -1 else if f = 17 then (if i < 64 then -1 else 0) else if f = 24 then (if i < 64 then -1 else 0) else if f = 25 then -1 else if f = 26 then 255 else if f = 28 then -1 else if f = 29 then -1 else 0
def wI : mS := fun f i =>
  if f = 2 then (if i < 64 then -1 else 0) else if f = 3 then (if i < 1024 then -1 else 0) else if f = 4 then (if i < 40 then -1 else 0) else if f = 12 then (if i < 6 then -1 else 0) else if f = 13 then (if i < 6 then 255 else 0) else if f = 15 then (if i < 6 then -1 else 0) else if f = 16 then (if i < 6 then -1 else 0) else if f = 21 then (if i < 384 then -1 else 0) else 0
theorem init_rel : rel (vI, id) wI := by
  refine rel_of (n := 0) (σ := id) ?_ ?_
  · exact bR_mk
      (bk := ⟨rfl, by decide, fun p hp => hp⟩)
      (pij := fun p p' _ _ h => h)
      (slt := fun p hp => by omega)
      (sij := fun p p' hp => by omega)
      (fre := fun q hq _ => by simp [wI, hq])
      (lst := fun p hp => by omega)
      (num := fun p hp => by omega)
      (lrg := fun p hp => by omega)
      (nrg := fun p hp => by omega)
      (srt := fun p p' _ hp => by omega)
      (tms := fun p hp => by omega)
      (trg := fun p hp => by omega)
      (mov := fun p hp => by omega)
      (mrg := fun p hp => by omega)
      (hld := fun p hp => by omega)
      (mv := fun q ch _ _ => Or.inl (by simp [wI]))
  · exact oR_mk
      (att := fun ch _ => by simp [wI, vI])
      (prg := fun ch h => by simp [wI, vI, h])
      (prr := fun ch h => by simp [vI, h])
      (phl := by rw [hc_none 64 (fun i hi => by simp [vI, hi])]; rfl)
      (pal := fun i h => by simp [wI, vI, h])
      (plr := fun i h => by simp [vI, h])
      (now := rfl)
      (nwr := by decide)
      (sts := rfl)
      (ply := fun j hj => by simp [wI, vI, hj])
      (pyr := fun j hj => by simp [vI])
      (fad := fun j hj ch hch => by
        have : 64 * j + ch < 384 := by omega
        simp [wI, vI, hch, this])
      (fdr := fun j hj ch hch => by simp [vI, hch])
