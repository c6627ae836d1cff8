/-! RELEASE, TIMES, DELAYS, LOOK, SOURCE, CUE, PLAYBACK, COUNT -/
theorem oR.row {v v' : Nat → Nat → Nat → Int32} {w w' : mS} (ho : oR v w) (e : ∀ f j i, f ≠ 16 → f ≠ 17 → v' f j i = v f j i) (g : ∀ f i, f ≠ 2 → w' f i = w f i) (h1 : ∀ ch, ch < 64 → w' 2 ch = v' 17 40 ch) (h2 : ∀ ch, ch < 64 → -1 ≤ v' 17 40 ch ∧ v' 17 40 ch < 272) (h3 : v' 16 40 0 = hc v' 40 64) : oR v' w' := by
  exact oR_mk
    (att := fun c hc => by rw [e _ _ _ (by decide) (by decide), g _ _ (by decide)]; exact ho.att c hc)
    (prg := h1)
    (prr := h2)
    (phl := h3)
    (pal := fun i hi => by rw [e _ _ _ (by decide) (by decide), g _ _ (by decide)]; exact ho.pal i hi)
    (plr := fun i hi => by rw [e _ _ _ (by decide) (by decide)]; exact ho.plr i hi)
    (now := by rw [e _ _ _ (by decide) (by decide), g _ _ (by decide)]; exact ho.now)
    (nwr := by rw [e _ _ _ (by decide) (by decide)]; exact ho.nwr)
    (sts := by rw [e _ _ _ (by decide) (by decide), g _ _ (by decide)]; exact ho.sts)
    (ply := fun j hj => by rw [g 12 _ (by decide), g 13 _ (by decide), g 14 _ (by decide), g 15 _ (by decide), g 16 _ (by decide), e 25 j 0 (by decide) (by decide), e 26 j 0 (by decide) (by decide), e 27 j 0 (by decide) (by decide), e 28 j 0 (by decide) (by decide), e 29 j 0 (by decide) (by decide)]; exact ho.ply j hj)
    (pyr := fun j hj => by rw [e 25 j 0 (by decide) (by decide), e 27 j 0 (by decide) (by decide), e 29 j 0 (by decide) (by decide)]; exact ho.pyr j hj)
    (fad := fun j hj c hc => by rw [g 17 _ (by decide), g 18 _ (by decide), g 19 _ (by decide), g 20 _ (by decide), g 21 _ (by decide), e 20 j c (by decide) (by decide), e 21 j c (by decide) (by decide), e 22 j c (by decide) (by decide), e 23 j c (by decide) (by decide), e 24 j c (by decide) (by decide)]; exact ho.fad j hj c hc)
    (fdr := fun j hj c hc => by rw [e 20 j c (by decide) (by decide), e 21 j c (by decide) (by decide), e 22 j c (by decide) (by decide), e 23 j c (by decide) (by decide), e 24 j c (by decide) (by decide)]; exact ho.fdr j hj c hc)
theorem mRl_f {w : mS} {x : Int32} {f i : Nat} (hf : f ≠ 2) : ∀ k, mRl w x k f i = w f i := by
  intro k
  induction k with
  | zero => rfl
  | succ k ih =>
    unfold mRl
    split
    · rw [up2_f hf]; exact ih
    · exact ih
theorem mRl_2 {w : mS} {x : Int32} : ∀ k i, mRl w x k 2 i = if i < k ∧ (x = -1 ∨ x = nI i) then -1 else w 2 i := by
  intro k
  induction k with
  | zero => intro i; rfl
  | succ k ih =>
    intro i
    unfold mRl
    by_cases he : i = k
    · subst he
      have hk : mRl w x i 2 i = w 2 i := by rw [ih i, if_neg (by omega)]
      split
      · rename_i h
        rw [up2_s, if_pos ⟨Nat.lt_succ_self _, h.1⟩]
      · rename_i h
        rw [hk] at h ⊢
        by_cases h2 : x = -1 ∨ x = nI i
        · rw [if_pos ⟨Nat.lt_succ_self _, h2⟩]
          apply Classical.byContradiction
          exact fun z => h ⟨h2, z⟩
        · rw [if_neg (fun z => h2 z.2)]
    · have h3 : (i < k + 1 ∧ (x = -1 ∨ x = nI i)) ↔ (i < k ∧ (x = -1 ∨ x = nI i)) := by
        constructor
        · exact fun z => ⟨by omega, z.2⟩
        · exact fun z => ⟨by omega, z.2⟩
      simp only [h3]
      split
      · rw [up2_i he]; exact ih i
      · exact ih i
theorem nI_inj {a b : Nat} (ha : a < 2 ^ 31) (hb : b < 2 ^ 31) (h : nI a = nI b) : a = b := by
  rw [← nI_clamp ha, h, nI_clamp hb]
theorem mRc_all {w : mS} {v : Nat → Nat → Nat → Int32} (hp : ∀ ch, ch < 64 → w 2 ch = v 17 40 ch) : ∀ k, k ≤ 64 → mRc w (-1) k = hc v 40 k := by
  intro k
  induction k with
  | zero => intro _; rfl
  | succ k ih =>
    intro hk
    unfold mRc hc
    rw [ih (by omega), mRl_2, if_neg (c := k < k ∧ _) (by omega), hp k (by omega)]
    by_cases h : v 17 40 k = -1
    · rw [if_pos h, if_neg (fun z => z.2 h)]
    · rw [if_neg h, if_pos ⟨Or.inl rfl, h⟩]
theorem mRc_one {w : mS} {c : Nat} (hc : c < 64) : ∀ k, k ≤ 64 → mRc w (nI c) k = if c < k ∧ ¬ w 2 c = -1 then 1 else 0 := by
  intro k
  induction k with
  | zero => intro _; rfl
  | succ k ih =>
    intro hk
    unfold mRc
    rw [ih (by omega), mRl_2, if_neg (c := k < k ∧ _) (by omega)]
    by_cases he : c = k
    · subst he
      by_cases h : w 2 c = -1
      · rw [if_neg (fun z => z.2 h), if_neg (fun z => z.2 h), if_neg (fun z => z.2 h)]
      · rw [if_pos ⟨Or.inr rfl, h⟩, if_neg (by omega), if_pos ⟨Nat.lt_succ_self _, h⟩]; rfl
    · have h1 : ¬ ((nI c = -1 ∨ nI c = nI k) ∧ ¬ w 2 k = -1) := by
        rintro ⟨h | h, -⟩
        · exact nI_nm1 (by omega) h
        · exact he (nI_inj (by omega) (by omega) h)
      have h2 : (c < k ∧ ¬ w 2 c = -1) ↔ (c < k + 1 ∧ ¬ w 2 c = -1) := ⟨fun z => ⟨by omega, z.2⟩, fun z => ⟨by omega, z.2⟩⟩
      rw [if_neg h1]
      simp only [h2]
theorem mRc_no {w : mS} {x : Int32} (h0 : ¬ x = -1) (h : ¬ isCh x) : ∀ k, k ≤ 64 → mRc w x k = 0 := by
  intro k
  induction k with
  | zero => intro _; rfl
  | succ k ih =>
    intro hk
    unfold mRc
    rw [ih (by omega), if_neg]
    rintro ⟨h1 | h1, -⟩
    · exact h0 h1
    · apply h
      rw [h1]
      exact ⟨nI_pos (by omega), nI_ge (a := k) (b := 64) (by omega) (by decide)⟩
theorem op_release {v : Nat → Nat → Nat → Int32} {π : Nat → Nat} {w : mS} (h : rel (v, π) w) {M : Nat} (hM : M = 64) {x1 r r' : Int32} {u : xS} {z : mS} (hx : if x1 = -1 then u = (vDropAll v 40, π) ∧ r = v 16 40 0 - vDropAll v 40 16 40 0 else if isCh x1 then u = (vDrop v 40 x1.toNatClampNeg, π) ∧ r = v 16 40 0 - vDrop v 40 x1.toNatClampNeg 16 40 0 else u = (v, π) ∧ r = v 16 40 0 - v 16 40 0) (hm : z = mRl (up2 w 0 0 0) x1 M ∧ r' = mRc (up2 w 0 0 0) x1 M) : r = r' ∧ rel u z := by
  obtain ⟨n, σ, hb, ho⟩ := rel_get h
  have hb := w0_bR hb 0
  have ho := w0_oR ho 0
  obtain ⟨rfl, rfl⟩ := hm
  generalize up2 w 0 0 0 = w at hb ho ⊢
  split at hx
  · rename_i hc
    obtain ⟨rfl, rfl⟩ := hx
    subst hc
    refine ⟨?_, rel_of (hb.congr (fun f j i hf => ?_) (fun f i h1 _ => mRl_f (by omega) _)) (ho.row (fun f j i h1 h2 => vDropAll_f h1 h2) (fun f i h1 => mRl_f h1 _) (fun ch hch => ?_) (fun ch hch => ?_) ?_)⟩
    · rw [vDropAll_16, ho.phl, mRc_all ho.prg M (by omega), hM]; grind
    · by_cases h4 : f = 4
      · exact vDropAll_f (by omega) (by omega)
      · exact vDropAll_j (by omega)
    · rw [vDropAll_17, mRl_2, if_pos ⟨by omega, Or.inl rfl⟩, if_pos hch]
    · rw [vDropAll_17, if_pos hch]; decide
    · rw [vDropAll_16, hc_none 64 (fun i hi => by rw [vDropAll_17, if_pos hi])]
  · rename_i h0
    split at hx
    · rename_i hc
      obtain ⟨rfl, rfl⟩ := hx
      obtain ⟨c, hcl, rfl⟩ := isCh_nat hc
      rw [nI_clamp (by omega)]
      refine ⟨?_, rel_of (hb.congr (fun f j i hf => ?_) (fun f i h1 _ => mRl_f (by omega) _)) (ho.row (fun f j i h1 h2 => vDrop_f h1 h2) (fun f i h1 => mRl_f h1 _) (fun ch hch => ?_) (fun ch hch => ?_) (hc_drop hcl ho.phl))⟩
      · rw [vDrop_16, mRc_one hcl M (by omega), ho.prg c hcl, hM]
        by_cases h : v 17 40 c = -1
        · rw [if_pos h, if_neg (fun z => z.2 h)]; grind
        · rw [if_neg h, if_pos ⟨hcl, h⟩]; grind
      · by_cases h4 : f = 4
        · exact vDrop_f (by omega) (by omega)
        · exact vDrop_j (by omega)
      · rw [vDrop_17, mRl_2]
        by_cases he : ch = c
        · rw [if_pos ⟨by omega, Or.inr (by rw [he])⟩, if_pos he]
        · rw [if_neg (fun z => z.2.elim h0 (fun y => he (nI_inj (by omega) (by omega) y.symm))), if_neg he]; exact ho.prg ch hch
      · rw [vDrop_17]
        by_cases he : ch = c
        · rw [if_pos he]; decide
        · rw [if_neg he]; exact ho.prr ch hch
    · rename_i hc
      obtain ⟨rfl, rfl⟩ := hx
      refine ⟨?_, rel_of (hb.congr (fun f j i hf => rfl) (fun f i h1 _ => mRl_f (by omega) _)) (ho.row (fun f j i h1 h2 => rfl) (fun f i h1 => mRl_f h1 _) (fun ch hch => ?_) ho.prr ho.phl)⟩
      · rw [mRc_no h0 hc M (by omega)]; grind
      · rw [mRl_2, if_neg]
        · exact ho.prg ch hch
        · rintro ⟨-, h1 | h1⟩
          · exact h0 h1
          · apply hc
            rw [h1]
            exact ⟨nI_pos (by omega), nI_ge (a := ch) (b := 64) (by omega) (by decide)⟩
section OT
variable {v : Nat → Nat → Nat → Int32} {π : Nat → Nat} {n : Nat} {σ : Nat → Nat} {w : mS}
theorem bR.plt (hb : bR v π n σ w) {p : Nat} (hp : p < n) : π p < 40 := hb.bk.2.2 p (by have := hb.n40; omega)
theorem bR.pne (hb : bR v π n σ w) {p q : Nat} (hp : p < n) (hq : q < n) (h : p ≠ q) : π p ≠ π q := fun z => h (hb.pij p q (by have := hb.n40; omega) (by have := hb.n40; omega) z)
theorem bR.sne (hb : bR v π n σ w) {p q : Nat} (hp : p < n) (hq : q < n) (h : p ≠ q) : σ p ≠ σ q := fun z => h (hb.sij p q hp hq z)
theorem bR.times (hb : bR v π n σ w) {q : Nat} (hq : q < n) {x y : Int32} (h1 : isTm x) (h2 : isTm y) : bR (up3 (up3 v 12 (π q) 0 x) 13 (π q) 0 y) π n σ (up2 (up2 w 6 (σ q) x) 7 (σ q) y) := by
  exact bR_mk
    (bk := ⟨hb.bk.1, hb.bk.2⟩)
    (pij := hb.pij)
    (slt := hb.slt)
    (sij := hb.sij)
    (fre := hb.fre)
    (lst := hb.lst)
    (num := hb.num)
    (lrg := hb.lrg)
    (nrg := hb.nrg)
    (srt := hb.srt)
    (tms := fun p hp => by
      have h0 := hb.tms p hp
      refine ⟨?_, ?_, h0.2.2⟩
      · rw [up2_f (by decide), up3_f (by decide)]
        by_cases he : p = q
        · rw [he, up2_s, up3_s]
        · rw [up2_i (hb.sne hp hq he), up3_j (hb.pne hp hq he)]; exact h0.1
      · by_cases he : p = q
        · rw [he, up2_s, up3_s]
        · rw [up2_i (hb.sne hp hq he), up3_j (hb.pne hp hq he), up2_f (by decide), up3_f (by decide)]; exact h0.2.1)
    (trg := fun p hp => by
      have h0 := hb.trg p hp
      refine ⟨?_, ?_, h0.2.2⟩
      · rw [up3_f (by decide)]
        by_cases he : p = q
        · rw [he, up3_s]; exact h1
        · rw [up3_j (hb.pne hp hq he)]; exact h0.1
      · by_cases he : p = q
        · rw [he, up3_s]; exact h2
        · rw [up3_j (hb.pne hp hq he), up3_f (by decide)]; exact h0.2.1)
    (mov := hb.mov)
    (mrg := hb.mrg)
    (hld := fun p hp => by rw [hc_congr (v := v) 64 (fun i _ => by rw [up3_f (by decide), up3_f (by decide)])]; exact hb.hld p hp)
    (mv := fun q' ch hq' hch => hb.mv q' ch hq' hch)
theorem bR.delays (hb : bR v π n σ w) {q : Nat} (hq : q < n) {x y : Int32} (h1 : isTm x) (h2 : y = -1 ∨ isTm y) : bR (up3 (up3 v 14 (π q) 0 x) 15 (π q) 0 y) π n σ (up2 (up2 w 8 (σ q) x) 9 (σ q) y) := by
  exact bR_mk
    (bk := ⟨hb.bk.1, hb.bk.2⟩)
    (pij := hb.pij)
    (slt := hb.slt)
    (sij := hb.sij)
    (fre := hb.fre)
    (lst := hb.lst)
    (num := hb.num)
    (lrg := hb.lrg)
    (nrg := hb.nrg)
    (srt := hb.srt)
    (tms := fun p hp => by
      have h0 := hb.tms p hp
      refine ⟨h0.1, h0.2.1, ?_, ?_⟩
      · rw [up2_f (by decide), up3_f (by decide)]
        by_cases he : p = q
        · rw [he, up2_s, up3_s]
        · rw [up2_i (hb.sne hp hq he), up3_j (hb.pne hp hq he)]; exact h0.2.2.1
      · by_cases he : p = q
        · rw [he, up2_s, up3_s]
        · rw [up2_i (hb.sne hp hq he), up3_j (hb.pne hp hq he), up2_f (by decide), up3_f (by decide)]; exact h0.2.2.2)
    (trg := fun p hp => by
      have h0 := hb.trg p hp
      refine ⟨h0.1, h0.2.1, ?_, ?_⟩
      · rw [up3_f (by decide)]
        by_cases he : p = q
        · rw [he, up3_s]; exact h1
        · rw [up3_j (hb.pne hp hq he)]; exact h0.2.2.1
      · by_cases he : p = q
        · rw [he, up3_s]; exact h2
        · rw [up3_j (hb.pne hp hq he), up3_f (by decide)]; exact h0.2.2.2)
    (mov := hb.mov)
    (mrg := hb.mrg)
    (hld := fun p hp => by rw [hc_congr (v := v) 64 (fun i _ => by rw [up3_f (by decide), up3_f (by decide)])]; exact hb.hld p hp)
    (mv := fun q' ch hq' hch => hb.mv q' ch hq' hch)
theorem op_times (hb : bR v π n σ w) (ho : oR v w) {F : Nat} (hF : F = 40) {a b x3 x4 r r' : Int32} {u : xS} {z : mS} (hx : match fndO v π n a b with | none => u = (v, π) ∧ r = 0 | some q => if isTm x3 ∧ isTm x4 then u = (up3 (up3 v 12 (π q) 0 x3) 13 (π q) 0 x4, π) ∧ r = 1 else u = (v, π) ∧ r = 0) (hm : match mFnd (up2 w 0 0 0) a b F with | none => z = (up2 w 0 0 0) ∧ r' = 0 | some q => if isTm x3 ∧ isTm x4 then z = up2 (up2 (up2 w 0 0 0) 6 q x3) 7 q x4 ∧ r' = 1 else z = (up2 w 0 0 0) ∧ r' = 0) : r = r' ∧ rel u z := by
  have hb := w0_bR hb 0
  have ho := w0_oR ho 0
  rw [hb.fnd hF] at hm
  cases hf : fndO v π n a b with
  | none =>
    rw [hf] at hx hm
    obtain ⟨rfl, rfl⟩ := hx
    obtain ⟨rfl, rfl⟩ := hm
    exact ⟨rfl, rel_of hb ho⟩
  | some q =>
    rw [hf] at hx hm
    simp only [Option.map_some] at hx hm
    have hq := (hb.fnd_some.mp hf).1
    split at hx
    · rename_i hc
      rw [if_pos hc] at hm
      obtain ⟨rfl, rfl⟩ := hx
      obtain ⟨rfl, rfl⟩ := hm
      exact ⟨rfl, rel_of (hb.times hq hc.1 hc.2) (ho.congr (fun f j i hf => by rw [up3_f (by omega), up3_f (by omega)]) (fun f i hf => by rw [up2_f (by omega), up2_f (by omega)]))⟩
    · rename_i hc
      rw [if_neg hc] at hm
      obtain ⟨rfl, rfl⟩ := hx
      obtain ⟨rfl, rfl⟩ := hm
      exact ⟨rfl, rel_of hb ho⟩
theorem op_delays (hb : bR v π n σ w) (ho : oR v w) {F : Nat} (hF : F = 40) {a b x3 x4 r r' : Int32} {u : xS} {z : mS} (hx : match fndO v π n a b with | none => u = (v, π) ∧ r = 0 | some q => if isTm x3 ∧ (x4 = -1 ∨ isTm x4) then u = (up3 (up3 v 14 (π q) 0 x3) 15 (π q) 0 x4, π) ∧ r = 1 else u = (v, π) ∧ r = 0) (hm : match mFnd (up2 w 0 0 0) a b F with | none => z = (up2 w 0 0 0) ∧ r' = 0 | some q => if isTm x3 ∧ (x4 = -1 ∨ isTm x4) then z = up2 (up2 (up2 w 0 0 0) 8 q x3) 9 q x4 ∧ r' = 1 else z = (up2 w 0 0 0) ∧ r' = 0) : r = r' ∧ rel u z := by
  have hb := w0_bR hb 0
  have ho := w0_oR ho 0
  rw [hb.fnd hF] at hm
  cases hf : fndO v π n a b with
  | none =>
    rw [hf] at hx hm
    obtain ⟨rfl, rfl⟩ := hx
    obtain ⟨rfl, rfl⟩ := hm
    exact ⟨rfl, rel_of hb ho⟩
  | some q =>
    rw [hf] at hx hm
    simp only [Option.map_some] at hx hm
    have hq := (hb.fnd_some.mp hf).1
    split at hx
    · rename_i hc
      rw [if_pos hc] at hm
      obtain ⟨rfl, rfl⟩ := hx
      obtain ⟨rfl, rfl⟩ := hm
      exact ⟨rfl, rel_of (hb.delays hq hc.1 hc.2) (ho.congr (fun f j i hf => by rw [up3_f (by omega), up3_f (by omega)]) (fun f i hf => by rw [up2_f (by omega), up2_f (by omega)]))⟩
    · rename_i hc
      rw [if_neg hc] at hm
      obtain ⟨rfl, rfl⟩ := hx
      obtain ⟨rfl, rfl⟩ := hm
      exact ⟨rfl, rel_of hb ho⟩
/-- levels -/
theorem oR.lev (ho : oR v w) {x : Int32} {ch : Nat} (hch : ch < 64) (h1 : -1 ≤ x) (h2 : x ≤ 272) : (if 0 ≤ cv x then mLev w (cv x) ch else -1) = vLev v x ch := by
  unfold mLev vLev
  by_cases h3 : x < 0
  · rw [if_pos h3]
    have : cv x = -1 := (cv_m1 x).mpr (by grind)
    rw [this]; rfl
  · by_cases h4 : 272 ≤ x
    · have : x = 272 := by grind
      subst this; rfl
    · have h5 : cv x = x := by unfold cv; grind
      rw [h5, if_neg h3, if_neg h4, if_pos (by grind)]
      by_cases h6 : x < 256
      · rw [if_pos h6, if_neg (by grind)]
      · rw [if_neg h6, if_pos (by grind), if_neg (by grind)]
        have h7 := lev_ix h3 h4 h6 hch
        rw [Nat.mul_comm 64, ho.pal _ h7.2]
theorem look_eq (hb : bR v π n σ w) (ho : oR v w) {F : Nat} (hF : F = 40) {p : Nat} (hp : p < n) {ch : Nat} (hch : ch < 64) {a b : Int32} (ha : v 10 (π p) 0 = a) (hbn : v 11 (π p) 0 = b) : mLook w a b ch F = vLev v (trk v π ch (some p)) ch := by
  unfold mLook
  rw [hb.tk0 hF hp hch ha hbn]
  have h1 := hb.trk_rg hch (X := some p) (fun q hq => by cases hq; exact hp)
  exact ho.lev hch h1.1 h1.2
theorem w0_0 (w : mS) (x : Int32) : up2 w 0 0 x 0 0 = x := up2_s w 0 0 x
theorem op_look_0 (hb : bR v π n σ w) (ho : oR v w) {F : Nat} (hF : F = 40) {a b x r' : Int32} {z : mS} {q : Nat} (hq : fndO v π n a b = some q) (hc : isCh x) (hm : mLkP w a b x F r' z) : z 0 0 = 0 ∧ vLev v (trk v π x.toNatClampNeg (some q)) x.toNatClampNeg = r' ∧ rel (v, π) z := by
  unfold mLkP at hm
  rw [hb.fnd hF, hq, if_neg (by simp), if_pos hc] at hm
  obtain ⟨rfl, rfl⟩ := hm
  have h1 := hb.fnd_some.mp hq
  have hb := w0_bR (w0_bR hb 0) 0
  have ho := w0_oR (w0_oR ho 0) 0
  exact ⟨w0_0 _ _, (look_eq hb ho hF h1.1 (ch_lt hc) h1.2.1 h1.2.2).symm, rel_of hb ho⟩
theorem op_look_2 (hb : bR v π n σ w) (ho : oR v w) {F : Nat} (hF : F = 40) {a b x r' : Int32} {z : mS} {q : Nat} (hq : fndO v π n a b = some q) (hc : ¬ isCh x) (hm : mLkP w a b x F r' z) : z 0 0 = 2 ∧ rel (v, π) z := by
  unfold mLkP at hm
  rw [hb.fnd hF, hq, if_neg (by simp), if_neg hc] at hm
  obtain ⟨rfl, rfl⟩ := hm
  exact ⟨w0_0 _ _, rel_of (w0_bR (w0_bR hb 0) 2) (w0_oR (w0_oR ho 0) 2)⟩
theorem op_look_1 (hb : bR v π n σ w) (ho : oR v w) {F : Nat} (hF : F = 40) {a b x r' : Int32} {z : mS} (hq : fndO v π n a b = none) (hm : mLkP w a b x F r' z) : z 0 0 = 1 ∧ rel (v, π) z := by
  unfold mLkP at hm
  rw [hb.fnd hF, hq, if_pos (c := Option.map σ none = none) rfl] at hm
  obtain ⟨rfl, rfl⟩ := hm
  exact ⟨w0_0 _ _, rel_of (w0_bR hb 1) (w0_oR ho 1)⟩
theorem op_source_0 (hb : bR v π n σ w) (ho : oR v w) {F : Nat} (hF : F = 40) {a b x r' : Int32} {z : mS} {q : Nat} (hq : fndO v π n a b = some q) (hc : isCh x) (hm : mScP w a b x F r' z) : z 0 0 = 0 ∧ xNum v π (srcO v π x.toNatClampNeg (some q)) = r' ∧ rel (v, π) z := by
  unfold mScP at hm
  rw [hb.fnd hF, hq, if_neg (by simp), if_pos hc] at hm
  obtain ⟨rfl, rfl⟩ := hm
  have h1 := hb.fnd_some.mp hq
  have hb := w0_bR (w0_bR hb 0) 0
  have ho := w0_oR (w0_oR ho 0) 0
  refine ⟨w0_0 _ _, ?_, rel_of hb ho⟩
  rw [hb.src hF h1.1 (ch_lt hc) h1.2.1 h1.2.2]
  have hl := srcO_lt (v := v) (π := π) (ch := x.toNatClampNeg) (n := n) (X := some q) (fun p hp => by cases hp; exact h1.1)
  cases hs : srcO v π x.toNatClampNeg (some q) with
  | none => rfl
  | some p => exact (hb.num p (hl p hs)).symm
theorem op_source_2 (hb : bR v π n σ w) (ho : oR v w) {F : Nat} (hF : F = 40) {a b x r' : Int32} {z : mS} {q : Nat} (hq : fndO v π n a b = some q) (hc : ¬ isCh x) (hm : mScP w a b x F r' z) : z 0 0 = 2 ∧ rel (v, π) z := by
  unfold mScP at hm
  rw [hb.fnd hF, hq, if_neg (by simp), if_neg hc] at hm
  obtain ⟨rfl, rfl⟩ := hm
  exact ⟨w0_0 _ _, rel_of (w0_bR (w0_bR hb 0) 2) (w0_oR (w0_oR ho 0) 2)⟩
theorem op_source_1 (hb : bR v π n σ w) (ho : oR v w) {F : Nat} (hF : F = 40) {a b x r' : Int32} {z : mS} (hq : fndO v π n a b = none) (hm : mScP w a b x F r' z) : z 0 0 = 1 ∧ rel (v, π) z := by
  unfold mScP at hm
  rw [hb.fnd hF, hq, if_pos (c := Option.map σ none = none) rfl] at hm
  obtain ⟨rfl, rfl⟩ := hm
  exact ⟨w0_0 _ _, rel_of (w0_bR hb 1) (w0_oR ho 1)⟩
/-- CUE -/
theorem mCl_no (hb : bR v π n σ w) {a : Int32} (ha : ¬ isLst a) : ∀ k, k ≤ 40 → mCl w a k = 0 := by
  intro k
  induction k with
  | zero => intro _; rfl
  | succ k ih =>
    intro hk
    unfold mCl
    rw [ih (by omega), if_neg]
    · rfl
    · rintro ⟨h1, h2⟩
      by_cases h3 : w 4 k = -1
      · grind
      · obtain ⟨p, hp, rfl⟩ := hb.used (by omega) h3
        have := hb.lrg p hp
        rw [hb.lst p hp] at h2
        unfold isLst at ha
        grind
theorem cue_cw (hb : bR v π n σ w) {F : Nat} (hF : F = 40) (a : Int32) : ∀ j : Nat, j < 2 ^ 31 → ¬ mCl w a F ≤ nI j → ∃ q, mCw (up2 w 0 0 0) a F j = some q := by
  intro j hj h
  by_cases ha : isLst a
  · have h1 : pFor v π n a 0 + j < pFor v π n (a + 1) 0 := by
      rw [hb.len hF ha] at h
      have h1 := pFor_le v π n (a + 1) 0
      have h2 := pFor_le v π n a 0
      have := hb.n40
      rw [Int32.le_iff_toInt_le, pk_sub_toInt (by omega) (by omega), nI_toInt hj] at h
      omega
    exact ⟨_, (w0_bR hb 0).nth hF ha j h1⟩
  · rw [mCl_no hb ha F (by omega)] at h
    exact absurd (nI_pos' hj) h
theorem op_cue_0 (hb : bR v π n σ w) (ho : oR v w) {F M : Nat} (hF : F = 40) (hM : M = 64) {a x2 x3 r r' : Int32} {z : mS} (ha : isLst a) (hx : (x2 = -1 ∧ x3 = 0 ∧ r = nI (pFor v π n (a + 1) 0) - nI (pFor v π n a 0)) ∨ (xCok (nI (pFor v π n (a + 1) 0) - nI (pFor v π n a 0)) x2 x3 ∧ r = cDet v (π (pFor v π n a 0 + x2.toNatClampNeg)) x3.toNatClampNeg)) (hm : mCuP w a x2 x3 F M r' z) : z 0 0 = 0 ∧ r = r' ∧ rel (v, π) z := by
  have h1 := pFor_le v π n (a + 1) 0
  have h2 := pFor_le v π n a 0
  have h3 := hb.pf_mono ha
  have h40 := hb.n40
  have hl := hb.len hF ha
  have hlp : ¬ nI (pFor v π n (a + 1) 0) - nI (pFor v π n a 0) ≤ -1 := by
    rw [pk_sub h3]
    have := nI_pos' (n := pFor v π n (a + 1) 0 - pFor v π n a 0) (by omega)
    grind
  have hb0 := w0_bR hb 0
  have ho0 := w0_oR ho 0
  unfold mCuP at hm
  rcases hx with ⟨rfl, rfl, rfl⟩ | ⟨hk, rfl⟩
  · rw [if_pos ⟨ha.1, ha.2, by decide, by rw [hl]; exact hlp, by decide, by decide, Or.inr rfl⟩, if_pos rfl] at hm
    obtain ⟨rfl, rfl⟩ := hm
    exact ⟨w0_0 _ _, hl.symm, rel_of hb0 ho0⟩
  · obtain ⟨k1, k2, k3, k4⟩ := hk
    rw [if_pos ⟨ha.1, ha.2, by grind, by rw [hl]; exact k2, k3, by grind, Or.inl (by grind)⟩, if_neg (by grind)] at hm
    obtain ⟨rfl, hr⟩ := hm
    refine ⟨w0_0 _ _, ?_, rel_of hb0 ho0⟩
    obtain ⟨i, hi, hx2⟩ : ∃ i : Nat, i < 2 ^ 31 ∧ x2 = nI i := by
      refine ⟨x2.toNatClampNeg, ?_, ?_⟩
      · have := Int32.toInt_lt x2
        unfold Int32.toNatClampNeg
        omega
      · apply Int32.toInt_inj.mp
        have h5 := Int32.toInt_lt x2
        have h6 : 0 ≤ x2.toInt := by
          have : (0 : Int32) ≤ x2 := by grind
          rw [Int32.le_iff_toInt_le] at this
          exact this
        rw [nI_toInt (by unfold Int32.toNatClampNeg; omega)]
        unfold Int32.toNatClampNeg
        omega
    subst hx2
    rw [nI_clamp hi] at hr ⊢
    have h5 : pFor v π n a 0 + i < pFor v π n (a + 1) 0 := by
      rw [Int32.le_iff_toInt_le, pk_sub_toInt (by omega) (by omega), nI_toInt hi] at k2
      omega
    rw [hb0.nth hF ha i h5] at hr
    simp only [Option.getD_some] at hr
    have hp : pFor v π n a 0 + i < n := by omega
    obtain ⟨j, hj, rfl⟩ := isD_nat k3 k4
    rw [hr, nI_clamp (by omega)]
    unfold cDet mDet
    have ht := hb0.tms _ hp
    rw [hb0.num _ hp, hb0.mvOf hM hp, ht.1, ht.2.1, ht.2.2.1, ht.2.2.2]
    rcases (by omega : j = 0 ∨ j = 1 ∨ j = 2 ∨ j = 3 ∨ j = 4 ∨ j = 5) with rfl | rfl | rfl | rfl | rfl | rfl <;> rfl
theorem op_cue_1 (hb : bR v π n σ w) (ho : oR v w) {F M : Nat} (hF : F = 40) (hM : M = 64) {a x2 x3 r' : Int32} {z : mS} (hx : ¬ isLst a ∨ (isLst a ∧ ¬ (x2 = -1 ∧ x3 = 0) ∧ ¬ xCok (nI (pFor v π n (a + 1) 0) - nI (pFor v π n a 0)) x2 x3)) (hm : mCuP w a x2 x3 F M r' z) : z 0 0 = 1 ∧ rel (v, π) z := by
  unfold mCuP at hm
  rw [if_neg] at hm
  · obtain ⟨rfl, rfl⟩ := hm
    exact ⟨w0_0 _ _, rel_of (w0_bR hb 1) (w0_oR ho 1)⟩
  · rintro ⟨h1, h2, h3, h4, h5, h6, h7⟩
    rcases hx with hx | ⟨hx, hx1, hx2⟩
    · exact hx ⟨h1, h2⟩
    · rw [hb.len hF hx] at h4
      apply hx2
      unfold xCok
      grind
/-- levels of playbacks -/
theorem oR.at (ho : oR v w) {j ch : Nat} (hj : j < 6) (hch : ch < 64) {x : Int32} (hx : 0 ≤ x) : mAt w (64 * j + ch) x = vAt v j ch x := by
  obtain ⟨h1, h2, h3, h4, h5⟩ := ho.fad j hj ch hch
  obtain ⟨r1, r2, r3, r4, r5⟩ := ho.fdr j hj ch hch
  unfold mAt vAt mFade vFade
  rw [h1, h2, h3, h4]
  by_cases h : v 22 j ch ≤ x
  · rw [if_pos h, if_pos (c := 0 ≤ x - v 22 j ch) (by grind)]
  · rw [if_neg h, if_neg (c := 0 ≤ x - v 22 j ch) (by grind)]
theorem oR.mo (ho : oR v w) (x : Int32) : mO w x := by
  intro j ch hj hch h
  obtain ⟨h1, h2, h3, h4, h5⟩ := ho.fad j hj ch hch
  obtain ⟨r1, r2, r3, r4, r5⟩ := ho.fdr j hj ch hch
  rw [h3] at h ⊢
  grind
theorem pbok_iff (x1 x2 : Int32) : xPbok x1 x2 ↔ mPbok x1 x2 := by unfold xPbok mPbok; grind
theorem op_playback_0 (hb : bR v π n σ w) (ho : oR v w) {x1 x2 r' : Int32} {z : mS} (hk : xPbok x1 x2) (hm : mPbP w x1 x2 r' z) : z 0 0 = 0 ∧ xPbv v x1.toNatClampNeg x2 = r' ∧ rel (v, π) z := by
  unfold mPbP at hm
  rw [if_pos ((pbok_iff _ _).mp hk)] at hm
  obtain ⟨rfl, rfl⟩ := hm
  have ho0 := w0_oR ho 0
  refine ⟨w0_0 _ _, ?_, rel_of (w0_bR hb 0) ho0⟩
  have hj := pb_lt hk.1
  obtain ⟨e1, e2, e3, e4, e5⟩ := ho0.ply _ hj
  unfold xPbv mPbv
  rw [e1, e2, e3, e4, e5]
  split
  · rfl
  split
  · rfl
  split
  · rfl
  split
  · rfl
  split
  · rfl
  · rename_i h0 h1 h2 h3 h4
    have h5 : ¬ x2 < 8 ∧ x2 < 72 := by
      rcases hk.2 with h | h
      · grind
      · exact h
    obtain ⟨k, hk64, rfl⟩ := pb_ch h5.1 h5.2
    rw [nI_clamp (by omega), ho0.now, show k + 8 - 8 = k by omega, ho0.at hj hk64 ho.nwr.1]
theorem op_playback_1 (hb : bR v π n σ w) (ho : oR v w) {x1 x2 r' : Int32} {z : mS} (hk : ¬ xPbok x1 x2) (hm : mPbP w x1 x2 r' z) : z 0 0 = 1 ∧ rel (v, π) z := by
  unfold mPbP at hm
  rw [if_neg (fun z => hk ((pbok_iff _ _).mpr z))] at hm
  obtain ⟨rfl, rfl⟩ := hm
  exact ⟨w0_0 _ _, rel_of (w0_bR hb 1) (w0_oR ho 1)⟩
theorem oR.pc (ho : oR v w) : ∀ k, k ≤ 64 → mPc w k = hc v 40 k := by
  intro k
  induction k with
  | zero => intro _; rfl
  | succ k ih =>
    intro hk
    unfold mPc hc
    rw [ih (by omega), ho.prg k (by omega)]
    by_cases h : v 17 40 k = -1
    · rw [if_pos h, if_pos h]; grind
    · rw [if_neg h, if_neg h]
theorem op_count (hb : bR v π n σ w) (ho : oR v w) {F M : Nat} (hF : F = 40) (hM : M = 64) {x r r' : Int32} {u : xS} {z : mS} (hx : u = (v, π) ∧ r = cntS v π n x) (hm : z = up2 w 0 0 0 ∧ r' = mCnt (up2 w 0 0 0) x F M) : r = r' ∧ rel u z := by
  obtain ⟨rfl, rfl⟩ := hx
  obtain ⟨rfl, rfl⟩ := hm
  have hb := w0_bR hb 0
  have ho := w0_oR ho 0
  refine ⟨?_, rel_of hb ho⟩
  unfold cntS mCnt
  rw [hb.cc hF, hb.mc hF hM, ho.pc M (by omega), ho.now, ho.sts, hb.bk.1, ho.phl, hM]
end OT
