/-! THE REST OF THE TWO STATES -/
def oR (v : Nat → Nat → Nat → Int32) (w : mS) : Prop :=
  (∀ ch, ch < 64 → w 1 ch = v 0 0 ch) ∧
  (∀ ch, ch < 64 → w 2 ch = v 17 40 ch) ∧
  (∀ ch, ch < 64 → -1 ≤ v 17 40 ch ∧ v 17 40 ch < 272) ∧
  (v 16 40 0 = hc v 40 64) ∧
  (∀ i, i < 1024 → w 3 i = v 3 0 i) ∧
  (∀ i, i < 1024 → -1 ≤ v 3 0 i ∧ v 3 0 i ≤ 255) ∧
  (w 22 0 = v 5 0 0) ∧
  (0 ≤ v 5 0 0 ∧ v 5 0 0 ≤ 1000000000) ∧
  (w 23 0 = v 6 0 0) ∧
  (∀ j, j < 6 → w 12 j = v 25 j 0 ∧ w 13 j = v 26 j 0 ∧ w 14 j = v 27 j 0 ∧ w 15 j = v 28 j 0 ∧ w 16 j = v 29 j 0) ∧
  (∀ j, j < 6 → (-1 ≤ v 25 j 0 ∧ v 25 j 0 < 4) ∧ (0 ≤ v 27 j 0 ∧ v 27 j 0 ≤ 9999) ∧ (-1 ≤ v 29 j 0 ∧ v 29 j 0 ≤ 1000010000) ∧ (v 29 j 0 = -1 ∨ 0 ≤ v 25 j 0)) ∧
  (∀ j, j < 6 → ∀ ch, ch < 64 → w 17 (64 * j + ch) = v 20 j ch ∧ w 18 (64 * j + ch) = v 21 j ch ∧ w 19 (64 * j + ch) = v 22 j ch ∧ w 20 (64 * j + ch) = v 23 j ch ∧ w 21 (64 * j + ch) = v 24 j ch) ∧
  (∀ j, j < 6 → ∀ ch, ch < 64 → (0 ≤ v 20 j ch ∧ v 20 j ch ≤ 255) ∧ (0 ≤ v 21 j ch ∧ v 21 j ch ≤ 255) ∧ (0 ≤ v 22 j ch ∧ v 22 j ch ≤ 1000020000) ∧ (0 ≤ v 23 j ch ∧ v 23 j ch ≤ 10000) ∧ -1 ≤ v 24 j ch)
theorem oR.att {v : Nat → Nat → Nat → Int32} {w : mS} (h : oR v w) : ∀ ch, ch < 64 → w 1 ch = v 0 0 ch := h.1
theorem oR.prg {v : Nat → Nat → Nat → Int32} {w : mS} (h : oR v w) : ∀ ch, ch < 64 → w 2 ch = v 17 40 ch := h.2.1
theorem oR.prr {v : Nat → Nat → Nat → Int32} {w : mS} (h : oR v w) : ∀ ch, ch < 64 → -1 ≤ v 17 40 ch ∧ v 17 40 ch < 272 := h.2.2.1
theorem oR.phl {v : Nat → Nat → Nat → Int32} {w : mS} (h : oR v w) : v 16 40 0 = hc v 40 64 := h.2.2.2.1
theorem oR.pal {v : Nat → Nat → Nat → Int32} {w : mS} (h : oR v w) : ∀ i, i < 1024 → w 3 i = v 3 0 i := h.2.2.2.2.1
theorem oR.plr {v : Nat → Nat → Nat → Int32} {w : mS} (h : oR v w) : ∀ i, i < 1024 → -1 ≤ v 3 0 i ∧ v 3 0 i ≤ 255 := h.2.2.2.2.2.1
theorem oR.now {v : Nat → Nat → Nat → Int32} {w : mS} (h : oR v w) : w 22 0 = v 5 0 0 := h.2.2.2.2.2.2.1
theorem oR.nwr {v : Nat → Nat → Nat → Int32} {w : mS} (h : oR v w) : 0 ≤ v 5 0 0 ∧ v 5 0 0 ≤ 1000000000 := h.2.2.2.2.2.2.2.1
theorem oR.sts {v : Nat → Nat → Nat → Int32} {w : mS} (h : oR v w) : w 23 0 = v 6 0 0 := h.2.2.2.2.2.2.2.2.1
theorem oR.ply {v : Nat → Nat → Nat → Int32} {w : mS} (h : oR v w) : ∀ j, j < 6 → w 12 j = v 25 j 0 ∧ w 13 j = v 26 j 0 ∧ w 14 j = v 27 j 0 ∧ w 15 j = v 28 j 0 ∧ w 16 j = v 29 j 0 := h.2.2.2.2.2.2.2.2.2.1
theorem oR.pyr {v : Nat → Nat → Nat → Int32} {w : mS} (h : oR v w) : ∀ j, j < 6 → (-1 ≤ v 25 j 0 ∧ v 25 j 0 < 4) ∧ (0 ≤ v 27 j 0 ∧ v 27 j 0 ≤ 9999) ∧ (-1 ≤ v 29 j 0 ∧ v 29 j 0 ≤ 1000010000) ∧ (v 29 j 0 = -1 ∨ 0 ≤ v 25 j 0) := h.2.2.2.2.2.2.2.2.2.2.1
theorem oR.fad {v : Nat → Nat → Nat → Int32} {w : mS} (h : oR v w) : ∀ j, j < 6 → ∀ ch, ch < 64 → w 17 (64 * j + ch) = v 20 j ch ∧ w 18 (64 * j + ch) = v 21 j ch ∧ w 19 (64 * j + ch) = v 22 j ch ∧ w 20 (64 * j + ch) = v 23 j ch ∧ w 21 (64 * j + ch) = v 24 j ch := h.2.2.2.2.2.2.2.2.2.2.2.1
theorem oR.fdr {v : Nat → Nat → Nat → Int32} {w : mS} (h : oR v w) : ∀ j, j < 6 → ∀ ch, ch < 64 → (0 ≤ v 20 j ch ∧ v 20 j ch ≤ 255) ∧ (0 ≤ v 21 j ch ∧ v 21 j ch ≤ 255) ∧ (0 ≤ v 22 j ch ∧ v 22 j ch ≤ 1000020000) ∧ (0 ≤ v 23 j ch ∧ v 23 j ch ≤ 10000) ∧ -1 ≤ v 24 j ch := h.2.2.2.2.2.2.2.2.2.2.2.2
theorem oR_mk {v : Nat → Nat → Nat → Int32} {w : mS} (att : ∀ ch, ch < 64 → w 1 ch = v 0 0 ch) (prg : ∀ ch, ch < 64 → w 2 ch = v 17 40 ch) (prr : ∀ ch, ch < 64 → -1 ≤ v 17 40 ch ∧ v 17 40 ch < 272) (phl : v 16 40 0 = hc v 40 64) (pal : ∀ i, i < 1024 → w 3 i = v 3 0 i) (plr : ∀ i, i < 1024 → -1 ≤ v 3 0 i ∧ v 3 0 i ≤ 255) (now : w 22 0 = v 5 0 0) (nwr : 0 ≤ v 5 0 0 ∧ v 5 0 0 ≤ 1000000000) (sts : w 23 0 = v 6 0 0) (ply : ∀ j, j < 6 → w 12 j = v 25 j 0 ∧ w 13 j = v 26 j 0 ∧ w 14 j = v 27 j 0 ∧ w 15 j = v 28 j 0 ∧ w 16 j = v 29 j 0) (pyr : ∀ j, j < 6 → (-1 ≤ v 25 j 0 ∧ v 25 j 0 < 4) ∧ (0 ≤ v 27 j 0 ∧ v 27 j 0 ≤ 9999) ∧ (-1 ≤ v 29 j 0 ∧ v 29 j 0 ≤ 1000010000) ∧ (v 29 j 0 = -1 ∨ 0 ≤ v 25 j 0)) (fad : ∀ j, j < 6 → ∀ ch, ch < 64 → w 17 (64 * j + ch) = v 20 j ch ∧ w 18 (64 * j + ch) = v 21 j ch ∧ w 19 (64 * j + ch) = v 22 j ch ∧ w 20 (64 * j + ch) = v 23 j ch ∧ w 21 (64 * j + ch) = v 24 j ch) (fdr : ∀ j, j < 6 → ∀ ch, ch < 64 → (0 ≤ v 20 j ch ∧ v 20 j ch ≤ 255) ∧ (0 ≤ v 21 j ch ∧ v 21 j ch ≤ 255) ∧ (0 ≤ v 22 j ch ∧ v 22 j ch ≤ 1000020000) ∧ (0 ≤ v 23 j ch ∧ v 23 j ch ≤ 10000) ∧ -1 ≤ v 24 j ch) : oR v w := ⟨att, prg, prr, phl, pal, plr, now, nwr, sts, ply, pyr, fad, fdr⟩
theorem hc_congr {v v' : Nat → Nat → Nat → Int32} {j : Nat} : ∀ k, (∀ i, i < k → v' 17 j i = v 17 j i) → hc v' j k = hc v j k := by
  intro k
  induction k with
  | zero => intro _; rfl
  | succ k ih => intro h; unfold hc; rw [ih (fun i hi => h i (by omega)), h k (by omega)]
section CG
variable {v v' : Nat → Nat → Nat → Int32} {π : Nat → Nat} {n : Nat} {σ : Nat → Nat} {w w' : mS}
theorem bR.congr (h : bR v π n σ w) (hv : ∀ f j i, (f = 4 ∨ (10 ≤ f ∧ f ≤ 17 ∧ j < 40)) → v' f j i = v f j i) (hw : ∀ f i, 4 ≤ f → f ≤ 10 → w' f i = w f i) : bR v' π n σ w' := by
  have hp : ∀ p, p < n → π p < 40 := fun p hp => h.bk.2.2 p (by have := h.n40; omega)
  have e : ∀ p, p < n → ∀ f i, 10 ≤ f → f ≤ 17 → v' f (π p) i = v f (π p) i := fun p hq f i h1 h2 => hv f (π p) i (Or.inr ⟨h1, h2, hp p hq⟩)
  exact bR_mk
    (bk := ⟨by rw [hv 4 0 0 (Or.inl rfl)]; exact h.bk.1, h.bk.2⟩)
    (pij := h.pij)
    (slt := h.slt)
    (sij := h.sij)
    (fre := fun q hq hn => by rw [hw 4 q (by decide) (by decide)]; exact h.fre q hq hn)
    (lst := fun p hq => by rw [hw 4 _ (by decide) (by decide), e p hq 10 0 (by decide) (by decide)]; exact h.lst p hq)
    (num := fun p hq => by rw [hw 5 _ (by decide) (by decide), e p hq 11 0 (by decide) (by decide)]; exact h.num p hq)
    (lrg := fun p hq => by rw [e p hq 10 0 (by decide) (by decide)]; exact h.lrg p hq)
    (nrg := fun p hq => by rw [e p hq 11 0 (by decide) (by decide)]; exact h.nrg p hq)
    (srt := fun p p' h1 h2 => by
      rw [e p (by omega) 10 0 (by decide) (by decide), e p (by omega) 11 0 (by decide) (by decide), e p' h2 10 0 (by decide) (by decide), e p' h2 11 0 (by decide) (by decide)]
      exact h.srt p p' h1 h2)
    (tms := fun p hq => by
      rw [hw 6 _ (by decide) (by decide), hw 7 _ (by decide) (by decide), hw 8 _ (by decide) (by decide), hw 9 _ (by decide) (by decide), e p hq 12 0 (by decide) (by decide), e p hq 13 0 (by decide) (by decide), e p hq 14 0 (by decide) (by decide), e p hq 15 0 (by decide) (by decide)]
      exact h.tms p hq)
    (trg := fun p hq => by
      rw [e p hq 12 0 (by decide) (by decide), e p hq 13 0 (by decide) (by decide), e p hq 14 0 (by decide) (by decide), e p hq 15 0 (by decide) (by decide)]
      exact h.trg p hq)
    (mov := fun p hq ch hch => by rw [hw 10 _ (by decide) (by decide), e p hq 17 ch (by decide) (by decide)]; exact h.mov p hq ch hch)
    (mrg := fun p hq ch hch => by rw [e p hq 17 ch (by decide) (by decide)]; exact h.mrg p hq ch hch)
    (hld := fun p hq => by rw [e p hq 16 0 (by decide) (by decide), hc_congr 64 (fun i _ => e p hq 17 i (by decide) (by decide))]; exact h.hld p hq)
    (mv := fun q ch hq hch => by rw [hw 10 _ (by decide) (by decide)]; exact h.mv q ch hq hch)
theorem oR.congr (h : oR v w) (hv : ∀ f j i, (f = 0 ∨ f = 3 ∨ f = 5 ∨ f = 6 ∨ (f = 16 ∧ j = 40) ∨ (f = 17 ∧ j = 40) ∨ (20 ≤ f ∧ f ≤ 29)) → v' f j i = v f j i) (hw : ∀ f i, (1 ≤ f ∧ f ≤ 3) ∨ 12 ≤ f → w' f i = w f i) : oR v' w' := by
  have e20 : ∀ f j i, 20 ≤ f → f ≤ 29 → v' f j i = v f j i := fun f j i h1 h2 => hv f j i (by omega)
  have e17 : ∀ i, v' 17 40 i = v 17 40 i := fun i => hv 17 40 i (by omega)
  exact oR_mk
    (att := fun ch hc => by rw [hw 1 _ (by omega), hv 0 _ _ (by omega)]; exact h.att ch hc)
    (prg := fun ch hc => by rw [hw 2 _ (by omega), e17]; exact h.prg ch hc)
    (prr := fun ch hc => by rw [e17]; exact h.prr ch hc)
    (phl := by rw [hv 16 40 0 (by omega), hc_congr 64 (fun i _ => e17 i)]; exact h.phl)
    (pal := fun i hi => by rw [hw 3 _ (by omega), hv 3 _ _ (by omega)]; exact h.pal i hi)
    (plr := fun i hi => by rw [hv 3 _ _ (by omega)]; exact h.plr i hi)
    (now := by rw [hw 22 _ (by omega), hv 5 _ _ (by omega)]; exact h.now)
    (nwr := by rw [hv 5 _ _ (by omega)]; exact h.nwr)
    (sts := by rw [hw 23 _ (by omega), hv 6 _ _ (by omega)]; exact h.sts)
    (ply := fun j hj => by
      rw [hw 12 _ (by omega), hw 13 _ (by omega), hw 14 _ (by omega), hw 15 _ (by omega), hw 16 _ (by omega), e20 25 _ _ (by decide) (by decide), e20 26 _ _ (by decide) (by decide), e20 27 _ _ (by decide) (by decide), e20 28 _ _ (by decide) (by decide), e20 29 _ _ (by decide) (by decide)]
      exact h.ply j hj)
    (pyr := fun j hj => by
      rw [e20 25 _ _ (by decide) (by decide), e20 27 _ _ (by decide) (by decide), e20 29 _ _ (by decide) (by decide)]
      exact h.pyr j hj)
    (fad := fun j hj ch hch => by
      rw [hw 17 _ (by omega), hw 18 _ (by omega), hw 19 _ (by omega), hw 20 _ (by omega), hw 21 _ (by omega), e20 20 _ _ (by decide) (by decide), e20 21 _ _ (by decide) (by decide), e20 22 _ _ (by decide) (by decide), e20 23 _ _ (by decide) (by decide), e20 24 _ _ (by decide) (by decide)]
      exact h.fad j hj ch hch)
    (fdr := fun j hj ch hch => by
      rw [e20 20 _ _ (by decide) (by decide), e20 21 _ _ (by decide) (by decide), e20 22 _ _ (by decide) (by decide), e20 23 _ _ (by decide) (by decide), e20 24 _ _ (by decide) (by decide)]
      exact h.fdr j hj ch hch)
end CG
/-- the two states answer alike -/
def rel (u : xS) (w : mS) : Prop := ∃ n σ, bR u.1 u.2 n σ w ∧ oR u.1 w
theorem rel_of {v : Nat → Nat → Nat → Int32} {π : Nat → Nat} {n : Nat} {σ : Nat → Nat} {w : mS} (hb : bR v π n σ w) (ho : oR v w) : rel (v, π) w := ⟨n, σ, hb, ho⟩
theorem rel_get {v : Nat → Nat → Nat → Int32} {π : Nat → Nat} {w : mS} (h : rel (v, π) w) : ∃ n σ, bR v π n σ w ∧ oR v w := h
theorem s16_id {x : Int32} (h : -32768 ≤ x) (h2 : x ≤ 32767) : s16 x = x := by
  rw [Int32.le_iff_toInt_le] at h h2
  have e1 : (-32768 : Int32).toInt = -32768 := by decide
  have e2 : (32767 : Int32).toInt = 32767 := by decide
  unfold s16
  apply Int32.toInt_inj.mp
  rw [Int16.toInt_toInt32, Int32.toInt_toInt16, Int.bmod_def]
  omega
theorem w0_bR {v : Nat → Nat → Nat → Int32} {π : Nat → Nat} {n : Nat} {σ : Nat → Nat} {w : mS} (h : bR v π n σ w) (x : Int32) : bR v π n σ (up2 w 0 0 x) := h.congr (fun _ _ _ _ => rfl) (fun f i h1 _ => up2_f (by omega))
theorem w0_oR {v : Nat → Nat → Nat → Int32} {w : mS} (h : oR v w) (x : Int32) : oR v (up2 w 0 0 x) := h.congr (fun _ _ _ _ => rfl) (fun f i h1 => up2_f (by omega))
theorem w0_rel {u : xS} {w : mS} (h : rel u w) (x : Int32) : rel u (up2 w 0 0 x) := by
  obtain ⟨n, σ, h1, h2⟩ := h
  exact ⟨n, σ, w0_bR h1 x, w0_oR h2 x⟩
/-! rows of values -/
theorem vPut_f {v : Nat → Nat → Nat → Int32} {j ch : Nat} {x : Int32} {f j' i : Nat} (h1 : f ≠ 16) (h2 : f ≠ 17) : vPut v j ch x f j' i = v f j' i := by
  unfold vPut
  split
  · rw [up3_f h2, up3_f h1]
  · rw [up3_f h2]
theorem vPut_j {v : Nat → Nat → Nat → Int32} {j ch : Nat} {x : Int32} {f j' i : Nat} (h1 : j' ≠ j) : vPut v j ch x f j' i = v f j' i := by
  unfold vPut
  split
  · rw [up3_j h1, up3_j h1]
  · rw [up3_j h1]
theorem vPut_17 {v : Nat → Nat → Nat → Int32} {j ch : Nat} {x : Int32} {i : Nat} : vPut v j ch x 17 j i = if i = ch then x else v 17 j i := by
  unfold vPut
  split <;> simp [up3]
theorem vPut_16 {v : Nat → Nat → Nat → Int32} {j ch : Nat} {x : Int32} : vPut v j ch x 16 j 0 = if v 17 j ch = -1 then v 16 j 0 + 1 else v 16 j 0 := by
  unfold vPut
  split <;> simp [up3]
theorem vDrop_f {v : Nat → Nat → Nat → Int32} {j ch : Nat} {f j' i : Nat} (h1 : f ≠ 16) (h2 : f ≠ 17) : vDrop v j ch f j' i = v f j' i := by
  unfold vDrop
  split
  · rw [up3_f h2]
  · rw [up3_f h2, up3_f h1]
theorem vDrop_j {v : Nat → Nat → Nat → Int32} {j ch : Nat} {f j' i : Nat} (h1 : j' ≠ j) : vDrop v j ch f j' i = v f j' i := by
  unfold vDrop
  split
  · rw [up3_j h1]
  · rw [up3_j h1, up3_j h1]
theorem vDrop_17 {v : Nat → Nat → Nat → Int32} {j ch : Nat} {i : Nat} : vDrop v j ch 17 j i = if i = ch then -1 else v 17 j i := by
  unfold vDrop
  split <;> simp [up3]
theorem vDrop_16 {v : Nat → Nat → Nat → Int32} {j ch : Nat} : vDrop v j ch 16 j 0 = if v 17 j ch = -1 then v 16 j 0 else v 16 j 0 - 1 := by
  unfold vDrop
  split <;> simp [up3]
/-- one value of a row changes: the number held -/
theorem hc_set {v v' : Nat → Nat → Nat → Int32} {j ch : Nat} {x : Int32} (hr : ∀ i, v' 17 j i = if i = ch then x else v 17 j i) : ∀ k, ch < k → hc v' j k + (if v 17 j ch = -1 then 0 else 1) = hc v j k + (if x = -1 then 0 else 1) := by
  intro k
  induction k with
  | zero => intro h; omega
  | succ k ih =>
    intro hk
    unfold hc
    by_cases h : ch = k
    · subst h
      rw [hr ch, if_pos rfl, hc_congr ch (v := v) (v' := v') (fun i hi => by rw [hr i, if_neg (by omega)])]
      grind
    · have := ih (by omega)
      have hk' : v' 17 j k = v 17 j k := by rw [hr k, if_neg (by omega)]
      rw [hk']
      grind
theorem hc_put {v : Nat → Nat → Nat → Int32} {j ch : Nat} {x : Int32} (hx : ¬ x = -1) (hch : ch < 64) (h : v 16 j 0 = hc v j 64) : vPut v j ch x 16 j 0 = hc (vPut v j ch x) j 64 := by
  have h1 := hc_set (v := v) (v' := vPut v j ch x) (j := j) (ch := ch) (x := x) (fun i => vPut_17) 64 hch
  rw [vPut_16, h]
  grind
theorem hc_drop {v : Nat → Nat → Nat → Int32} {j ch : Nat} (hch : ch < 64) (h : v 16 j 0 = hc v j 64) : vDrop v j ch 16 j 0 = hc (vDrop v j ch) j 64 := by
  have h1 := hc_set (v := v) (v' := vDrop v j ch) (j := j) (ch := ch) (x := -1) (fun i => vDrop_17) 64 hch
  rw [vDrop_16, h]
  grind
theorem vDropAll_f {v : Nat → Nat → Nat → Int32} {j f j' i : Nat} (h1 : f ≠ 16) (h2 : f ≠ 17) : vDropAll v j f j' i = v f j' i := by
  unfold vDropAll
  rw [up3_f h1]
  simp [vRow, h2]
theorem vDropAll_j {v : Nat → Nat → Nat → Int32} {j f j' i : Nat} (h1 : j' ≠ j) : vDropAll v j f j' i = v f j' i := by
  unfold vDropAll
  rw [up3_j h1]
  simp [vRow, h1]
theorem vDropAll_17 {v : Nat → Nat → Nat → Int32} {j i : Nat} : vDropAll v j 17 j i = if i < 64 then -1 else v 17 j i := by
  unfold vDropAll
  rw [up3_f (by decide)]
  simp [vRow]
theorem vDropAll_16 {v : Nat → Nat → Nat → Int32} {j : Nat} : vDropAll v j 16 j 0 = 0 := by
  unfold vDropAll
  rw [up3_s]
theorem hc_none {v : Nat → Nat → Nat → Int32} {j : Nat} : ∀ k, (∀ i, i < k → v 17 j i = -1) → hc v j k = 0 := by
  intro k
  induction k with
  | zero => intro _; rfl
  | succ k ih => intro h; unfold hc; rw [if_pos (h k (by omega)), ih (fun i hi => h i (by omega))]
/-! KIND, SET, USE, PALETTE, MASTER, ASSIGN -/
theorem isLm_iff (x : Int32) : isLm x ↔ isLv x := by unfold isLm isLv; grind
theorem ch_lt {x : Int32} (h : isCh x) : x.toNatClampNeg < 64 := by
  obtain ⟨j, hj, rfl⟩ := isCh_nat h
  rw [nI_clamp (by omega)]; exact hj
theorem pb_lt {x : Int32} (h : isPb x) : x.toNatClampNeg < 6 := by
  obtain ⟨j, hj, rfl⟩ := isPb_nat h
  rw [nI_clamp (by omega)]; exact hj
theorem pal_lt {x : Int32} (h : isPal x) : x.toNatClampNeg < 16 := by
  obtain ⟨j, hj, rfl⟩ := isPal_nat h
  rw [nI_clamp (by omega)]; exact hj
theorem op_kind {v : Nat → Nat → Nat → Int32} {π : Nat → Nat} {w : mS} (h : rel (v, π) w) {x1 x2 r r' : Int32} {u : xS} {z : mS} (hx : if isCh x1 then u = (up3 v 0 0 x1.toNatClampNeg x2, π) ∧ r = 1 else u = (v, π) ∧ r = 0) (hm : if isCh x1 then z = up2 (up2 w 0 0 0) 1 x1.toNatClampNeg x2 ∧ r' = 1 else z = (up2 w 0 0 0) ∧ r' = 0) : r = r' ∧ rel u z := by
  obtain ⟨n, σ, hb, ho⟩ := rel_get h
  have hb := w0_bR hb 0
  have ho := w0_oR ho 0
  split at hx
  · rename_i hc
    rw [if_pos hc] at hm
    obtain ⟨rfl, rfl⟩ := hx
    obtain ⟨rfl, rfl⟩ := hm
    refine ⟨rfl, rel_of (hb.congr (fun f j i hf => up3_f (by omega)) (fun f i h1 _ => up2_f (by omega))) ?_⟩
    exact oR_mk
      (att := fun ch hch => by
        by_cases he : ch = x1.toNatClampNeg
        · rw [he, up2_s, up3_s]
        · rw [up2_i he, up3_i he]; exact ho.att ch hch)
      (prg := ho.prg)
      (prr := ho.prr)
      (phl := by rw [up3_f (by decide), hc_congr 64 (fun i _ => up3_f (by decide))]; exact ho.phl)
      (pal := ho.pal)
      (plr := ho.plr)
      (now := ho.now)
      (nwr := ho.nwr)
      (sts := ho.sts)
      (ply := ho.ply)
      (pyr := ho.pyr)
      (fad := ho.fad)
      (fdr := ho.fdr)
  · rename_i hc
    rw [if_neg hc] at hm
    obtain ⟨rfl, rfl⟩ := hx
    obtain ⟨rfl, rfl⟩ := hm
    exact ⟨rfl, rel_of hb ho⟩
theorem oR.put {v : Nat → Nat → Nat → Int32} {w : mS} (ho : oR v w) {ch : Nat} {x y : Int32} (hch : ch < 64) (hx : 0 ≤ x) (hx2 : x < 272) (hy : y = x) : oR (vPut v 40 ch x) (up2 w 2 ch y) := by
  have e : ∀ f j i, f ≠ 16 → f ≠ 17 → vPut v 40 ch x f j i = v f j i := fun f j i h1 h2 => vPut_f h1 h2
  have g : ∀ f i, f ≠ 2 → up2 w 2 ch y f i = w f i := fun f i h => up2_f h
  exact oR_mk
    (att := fun c hc => by rw [e _ _ _ (by decide) (by decide)]; exact ho.att c hc)
    (prg := fun c hc => by
      rw [vPut_17]
      by_cases he : c = ch
      · rw [if_pos he, he, up2_s]; exact hy
      · rw [if_neg he, up2_i he]; exact ho.prg c hc)
    (prr := fun c hc => by
      rw [vPut_17]
      by_cases he : c = ch
      · rw [if_pos he]; grind
      · rw [if_neg he]; exact ho.prr c hc)
    (phl := hc_put (by grind) hch ho.phl)
    (pal := fun i hi => by rw [e _ _ _ (by decide) (by decide)]; exact ho.pal i hi)
    (plr := fun i hi => by rw [e _ _ _ (by decide) (by decide)]; exact ho.plr i hi)
    (now := by rw [e _ _ _ (by decide) (by decide)]; exact ho.now)
    (nwr := by rw [e _ _ _ (by decide) (by decide)]; exact ho.nwr)
    (sts := by rw [e _ _ _ (by decide) (by decide)]; exact ho.sts)
    (ply := fun j hj => by rw [e 25 j 0 (by decide) (by decide), e 26 j 0 (by decide) (by decide), e 27 j 0 (by decide) (by decide), e 28 j 0 (by decide) (by decide), e 29 j 0 (by decide) (by decide)]; exact ho.ply j hj)
    (pyr := fun j hj => by rw [e 25 j 0 (by decide) (by decide), e 27 j 0 (by decide) (by decide), e 29 j 0 (by decide) (by decide)]; exact ho.pyr j hj)
    (fad := fun j hj c hc => by rw [e 20 j c (by decide) (by decide), e 21 j c (by decide) (by decide), e 22 j c (by decide) (by decide), e 23 j c (by decide) (by decide), e 24 j c (by decide) (by decide)]; exact ho.fad j hj c hc)
    (fdr := fun j hj c hc => by rw [e 20 j c (by decide) (by decide), e 21 j c (by decide) (by decide), e 22 j c (by decide) (by decide), e 23 j c (by decide) (by decide), e 24 j c (by decide) (by decide)]; exact ho.fdr j hj c hc)
theorem op_put {v : Nat → Nat → Nat → Int32} {π : Nat → Nat} {w : mS} (h : rel (v, π) w) {P P' : Prop} [Decidable P] [Decidable P'] {ch : Nat} {x y r r' : Int32} {u : xS} {z : mS} (hP : P ↔ P') (hch : P → ch < 64) (hx0 : P → 0 ≤ x ∧ x < 272) (hy : P → y = x) (hx : if P then u = (vPut v 40 ch x, π) ∧ r = 1 else u = (v, π) ∧ r = 0) (hm : if P' then z = up2 (up2 w 0 0 0) 2 ch y ∧ r' = 1 else z = (up2 w 0 0 0) ∧ r' = 0) : r = r' ∧ rel u z := by
  obtain ⟨n, σ, hb, ho⟩ := rel_get h
  have hb := w0_bR hb 0
  have ho := w0_oR ho 0
  by_cases hc : P
  · rw [if_pos hc] at hx
    rw [if_pos (hP.mp hc)] at hm
    obtain ⟨rfl, rfl⟩ := hx
    obtain ⟨rfl, rfl⟩ := hm
    exact ⟨rfl, rel_of (hb.congr (fun f j i hf => by
      by_cases h16 : f = 4
      · exact vPut_f (by omega) (by omega)
      · exact vPut_j (by omega)) (fun f i h1 _ => up2_f (by omega))) (ho.put (hch hc) (hx0 hc).1 (hx0 hc).2 (hy hc))⟩
  · rw [if_neg hc] at hx
    rw [if_neg (fun z => hc (hP.mpr z))] at hm
    obtain ⟨rfl, rfl⟩ := hx
    obtain ⟨rfl, rfl⟩ := hm
    exact ⟨rfl, rel_of hb ho⟩
theorem op_set {v : Nat → Nat → Nat → Int32} {π : Nat → Nat} {w : mS} (h : rel (v, π) w) {x1 x2 r r' : Int32} {u : xS} {z : mS} (hx : if isCh x1 ∧ isLv x2 then u = (vPut v 40 x1.toNatClampNeg x2, π) ∧ r = 1 else u = (v, π) ∧ r = 0) (hm : if isCh x1 ∧ isLm x2 then z = up2 (up2 w 0 0 0) 2 x1.toNatClampNeg (s16 x2) ∧ r' = 1 else z = (up2 w 0 0 0) ∧ r' = 0) : r = r' ∧ rel u z :=
  op_put h (by rw [isLm_iff]) (fun z => ch_lt z.1) (fun z => by have := z.2; unfold isLv at this; grind) (fun z => s16_id (by have := z.2; unfold isLv at this; grind) (by have := z.2; unfold isLv at this; grind)) hx hm
theorem op_use {v : Nat → Nat → Nat → Int32} {π : Nat → Nat} {w : mS} (h : rel (v, π) w) {x1 x2 r r' : Int32} {u : xS} {z : mS} (hx : if isCh x1 ∧ isPal x2 then u = (vPut v 40 x1.toNatClampNeg (256 + x2), π) ∧ r = 1 else u = (v, π) ∧ r = 0) (hm : if isCh x1 ∧ ¬ x2 < 0 ∧ x2 ≤ 15 then z = up2 (up2 w 0 0 0) 2 x1.toNatClampNeg (s16 (256 + x2)) ∧ r' = 1 else z = (up2 w 0 0 0) ∧ r' = 0) : r = r' ∧ rel u z :=
  op_put h (by unfold isPal; grind) (fun z => ch_lt z.1) (fun z => by have := z.2; unfold isPal at this; grind) (fun z => s16_id (by have := z.2; unfold isPal at this; grind) (by have := z.2; unfold isPal at this; grind)) hx hm
theorem op_palette {v : Nat → Nat → Nat → Int32} {π : Nat → Nat} {w : mS} (h : rel (v, π) w) {x1 x2 x3 r r' : Int32} {u : xS} {z : mS} (hx : if isPal x1 ∧ isCh x2 ∧ (x3 = -1 ∨ isLv x3) then u = (up3 v 3 0 (x1.toNatClampNeg * 64 + x2.toNatClampNeg) x3, π) ∧ r = 1 else u = (v, π) ∧ r = 0) (hm : if ¬ x1 < 0 ∧ ¬ 15 < x1 ∧ isCh x2 ∧ (x3 = -1 ∨ isLm x3) then z = up2 (up2 w 0 0 0) 3 (64 * x1.toNatClampNeg + x2.toNatClampNeg) (s16 x3) ∧ r' = 1 else z = (up2 w 0 0 0) ∧ r' = 0) : r = r' ∧ rel u z := by
  obtain ⟨n, σ, hb, ho⟩ := rel_get h
  have hb := w0_bR hb 0
  have ho := w0_oR ho 0
  have hP : (isPal x1 ∧ isCh x2 ∧ (x3 = -1 ∨ isLv x3)) ↔ (¬ x1 < 0 ∧ ¬ 15 < x1 ∧ isCh x2 ∧ (x3 = -1 ∨ isLm x3)) := by rw [isLm_iff]; unfold isPal; grind
  by_cases hc : isPal x1 ∧ isCh x2 ∧ (x3 = -1 ∨ isLv x3)
  · rw [if_pos hc] at hx
    rw [if_pos (hP.mp hc)] at hm
    obtain ⟨rfl, rfl⟩ := hx
    obtain ⟨rfl, rfl⟩ := hm
    have h3 := hc.2.2
    unfold isLv at h3
    have h1 := pal_lt hc.1
    have h2 := ch_lt hc.2.1
    rw [s16_id (by grind) (by grind), Nat.mul_comm]
    refine ⟨rfl, rel_of (hb.congr (fun f j i hf => up3_f (by omega)) (fun f i h1 _ => up2_f (by omega))) ?_⟩
    exact oR_mk
      (att := ho.att)
      (prg := ho.prg)
      (prr := ho.prr)
      (phl := by rw [up3_f (by decide), hc_congr 64 (fun i _ => up3_f (by decide))]; exact ho.phl)
      (pal := fun i hi => by
        by_cases he : i = 64 * x1.toNatClampNeg + x2.toNatClampNeg
        · rw [he, up2_s, up3_s]
        · rw [up2_i he, up3_i he]; exact ho.pal i hi)
      (plr := fun i hi => by
        by_cases he : i = 64 * x1.toNatClampNeg + x2.toNatClampNeg
        · rw [he, up3_s]; grind
        · rw [up3_i he]; exact ho.plr i hi)
      (now := ho.now)
      (nwr := ho.nwr)
      (sts := ho.sts)
      (ply := ho.ply)
      (pyr := ho.pyr)
      (fad := ho.fad)
      (fdr := ho.fdr)
  · rw [if_neg hc] at hx
    rw [if_neg (fun z => hc (hP.mpr z))] at hm
    obtain ⟨rfl, rfl⟩ := hx
    obtain ⟨rfl, rfl⟩ := hm
    exact ⟨rfl, rel_of hb ho⟩
theorem op_master {v : Nat → Nat → Nat → Int32} {π : Nat → Nat} {w : mS} (h : rel (v, π) w) {x1 x2 r r' : Int32} {u : xS} {z : mS} (hx : if isPb x1 ∧ isLv x2 then u = (up3 v 26 x1.toNatClampNeg 0 x2, π) ∧ r = 1 else u = (v, π) ∧ r = 0) (hm : if isPb x1 ∧ isLm x2 then z = up2 (up2 w 0 0 0) 13 x1.toNatClampNeg x2 ∧ r' = 1 else z = (up2 w 0 0 0) ∧ r' = 0) : r = r' ∧ rel u z := by
  obtain ⟨n, σ, hb, ho⟩ := rel_get h
  have hb := w0_bR hb 0
  have ho := w0_oR ho 0
  have hP : (isPb x1 ∧ isLv x2) ↔ (isPb x1 ∧ isLm x2) := by rw [isLm_iff]
  by_cases hc : isPb x1 ∧ isLv x2
  · rw [if_pos hc] at hx
    rw [if_pos (hP.mp hc)] at hm
    obtain ⟨rfl, rfl⟩ := hx
    obtain ⟨rfl, rfl⟩ := hm
    refine ⟨rfl, rel_of (hb.congr (fun f j i hf => up3_f (by omega)) (fun f i h1 _ => up2_f (by omega))) ?_⟩
    exact oR_mk
      (att := ho.att)
      (prg := ho.prg)
      (prr := ho.prr)
      (phl := by rw [up3_f (by decide), hc_congr 64 (fun i _ => up3_f (by decide))]; exact ho.phl)
      (pal := ho.pal)
      (plr := ho.plr)
      (now := ho.now)
      (nwr := ho.nwr)
      (sts := ho.sts)
      (ply := fun j hj => by
        have h0 := ho.ply j hj
        refine ⟨h0.1, ?_, h0.2.2⟩
        by_cases he : j = x1.toNatClampNeg
        · rw [he, up2_s, up3_s]
        · rw [up2_i he, up3_j he]; exact h0.2.1)
      (pyr := ho.pyr)
      (fad := ho.fad)
      (fdr := ho.fdr)
  · rw [if_neg hc] at hx
    rw [if_neg (fun z => hc (hP.mpr z))] at hm
    obtain ⟨rfl, rfl⟩ := hx
    obtain ⟨rfl, rfl⟩ := hm
    exact ⟨rfl, rel_of hb ho⟩
theorem op_assign {v : Nat → Nat → Nat → Int32} {π : Nat → Nat} {w : mS} (h : rel (v, π) w) {x1 x2 r r' : Int32} {u : xS} {z : mS} (hx : if isPb x1 ∧ isLst x2 ∧ v 28 x1.toNatClampNeg 0 = -1 then u = (up3 v 25 x1.toNatClampNeg 0 x2, π) ∧ r = 1 else u = (v, π) ∧ r = 0) (hm : if isPb x1 ∧ ¬ x2 < 0 ∧ ¬ 3 < x2 ∧ w 15 x1.toNatClampNeg = -1 then z = up2 (up2 w 0 0 0) 12 x1.toNatClampNeg x2 ∧ r' = 1 else z = (up2 w 0 0 0) ∧ r' = 0) : r = r' ∧ rel u z := by
  obtain ⟨n, σ, hb, ho⟩ := rel_get h
  have hP : (isPb x1 ∧ isLst x2 ∧ v 28 x1.toNatClampNeg 0 = -1) ↔ (isPb x1 ∧ ¬ x2 < 0 ∧ ¬ 3 < x2 ∧ w 15 x1.toNatClampNeg = -1) := by
    by_cases hb : isPb x1
    · have := ho.ply _ (pb_lt hb)
      rw [this.2.2.2.1]
      unfold isLst
      grind
    · grind
  have hb := w0_bR hb 0
  have ho := w0_oR ho 0
  by_cases hc : isPb x1 ∧ isLst x2 ∧ v 28 x1.toNatClampNeg 0 = -1
  · rw [if_pos hc] at hx
    rw [if_pos (hP.mp hc)] at hm
    obtain ⟨rfl, rfl⟩ := hx
    obtain ⟨rfl, rfl⟩ := hm
    have h2 := hc.2.1
    unfold isLst at h2
    refine ⟨rfl, rel_of (hb.congr (fun f j i hf => up3_f (by omega)) (fun f i h1 _ => up2_f (by omega))) ?_⟩
    exact oR_mk
      (att := ho.att)
      (prg := ho.prg)
      (prr := ho.prr)
      (phl := by rw [up3_f (by decide), hc_congr 64 (fun i _ => up3_f (by decide))]; exact ho.phl)
      (pal := ho.pal)
      (plr := ho.plr)
      (now := ho.now)
      (nwr := ho.nwr)
      (sts := ho.sts)
      (ply := fun j hj => by
        have h0 := ho.ply j hj
        refine ⟨?_, h0.2⟩
        by_cases he : j = x1.toNatClampNeg
        · rw [he, up2_s, up3_s]
        · rw [up2_i he, up3_j he]; exact h0.1)
      (pyr := fun j hj => by
        have h0 := ho.pyr j hj
        rw [up3_f (f' := 27) (by decide), up3_f (f' := 29) (by decide)]
        by_cases he : j = x1.toNatClampNeg
        · rw [he, up3_s]
          rw [he] at h0
          grind
        · rw [up3_j he]; exact h0)
      (fad := ho.fad)
      (fdr := ho.fdr)
  · rw [if_neg hc] at hx
    rw [if_neg (fun z => hc (hP.mpr z))] at hm
    obtain ⟨rfl, rfl⟩ := hx
    obtain ⟨rfl, rfl⟩ := hm
    exact ⟨rfl, rel_of hb ho⟩
