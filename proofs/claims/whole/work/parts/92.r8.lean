/-! DELETE, RECORD -/
section DR
variable {v : Nat → Nat → Nat → Int32} {π : Nat → Nat} {n : Nat} {σ : Nat → Nat} {w : mS}
theorem kp_f {q k f j c : Nat} (h1 : f ≠ 16) (h2 : f ≠ 17) : ∀ i, kp v π q k i f j c = v f j c := by
  intro i
  induction i with
  | zero => rfl
  | succ i ih =>
    unfold kp
    split
    · rw [vPut_f h1 h2]; exact ih
    · exact ih
theorem kp_j {q k f j c : Nat} (h : j ≠ π q) : ∀ i, kp v π q k i f j c = v f j c := by
  intro i
  induction i with
  | zero => rfl
  | succ i ih =>
    unfold kp
    split
    · rw [vPut_j h]; exact ih
    · exact ih
theorem kp_c {q k j c : Nat} : ∀ i, i ≤ c → kp v π q k i 17 j c = v 17 j c := by
  intro i
  induction i with
  | zero => intro _; rfl
  | succ i ih =>
    intro hi
    unfold kp
    split
    · rw [← ih (by omega)]
      by_cases hj : j = π q
      · rw [hj, vPut_17, if_neg (by omega)]
      · rw [vPut_j hj]
    · exact ih (by omega)
theorem kp_trk {q k : Nat} (i : Nat) {X : Option Nat} : trk (kp v π q k i) π i X = trk v π i X := trk_congr (fun p q' _ _ => ⟨kp_f (by decide) (by decide) i, kp_c i (Nat.le_refl _)⟩)
theorem mDl_f {q x f i : Nat} (h : f ≠ 10) : ∀ k, mDl w q x k f i = w f i := by
  intro k
  induction k with
  | zero => rfl
  | succ k ih =>
    unfold mDl
    split
    · exact ih
    · unfold mKp
      split
      · rw [up2_f h]; exact ih
      · exact ih
theorem un_cv {t : Int32} : (if cv t = -1 then 300 else cv t) = cv (orU t) := by unfold orU cv; grind
theorem orU_rg {t : Int32} (h1 : -1 ≤ t) (h2 : t ≤ 272) : 0 ≤ orU t ∧ orU t ≤ 272 := by unfold orU; grind
theorem kp_rel (hb : bR v π n σ w) {F M : Nat} (hF : F = 40) (hM : M = 64) {q p : Nat} (hq : q < n) (hp : p < n) : ∀ i, i ≤ 64 → bR (kp v π p (π q) i) π n σ (mDl (mNt w (σ p) F M) (σ q) (σ p) i) := by
  intro i
  induction i with
  | zero => intro _; exact hb.nt _
  | succ i ih =>
    intro hi
    have hb1 := ih (by omega)
    have hr := hb.trk_rg (show i < 64 by omega) (X := some p) (fun q' hq' => by cases hq'; exact hp)
    unfold kp mDl mKp
    rw [kp_trk, mDl_f (f := 11) (by decide), hb.kept hF hp (by omega) (by omega), hb1.mov q hq i (by omega), hb1.mov p hp i (by omega), un_cv]
    have ho := orU_rg hr.1 hr.2
    rw [cv_s16 (by grind) ho.2]
    have c1 := cv_m1 (kp v π p (π q) i 17 (π q) i)
    have c2 := cv_m1 (kp v π p (π q) i 17 (π p) i)
    by_cases h1 : kp v π p (π q) i 17 (π q) i = -1
    · rw [if_neg (fun z => z.1 h1), if_pos (c1.mpr h1)]
      exact hb1
    · rw [if_neg (c := cv _ = -1) (fun z => h1 (c1.mp z))]
      by_cases h2 : kp v π p (π q) i 17 (π p) i = -1
      · rw [if_pos ⟨h1, h2⟩, if_pos (c2.mpr h2)]
        exact hb1.put hp (by omega) ho rfl
      · rw [if_neg (fun z => h2 z.2), if_neg (fun z => h2 (c2.mp z))]
        exact hb1
theorem tkp_eq {q : Nat} : ∀ d p, tkp π q d p = if q ≤ p ∧ p < q + d then π (p + 1) else π p := by
  intro d
  induction d with
  | zero => intro p; rw [if_neg (by omega)]; rfl
  | succ d ih =>
    intro p
    unfold tkp
    by_cases he : p = q + d
    · rw [he, va_up_self, ih, if_neg (by omega), if_pos (by omega)]
    · rw [va_up_ne _ _ he, ih]
      have : (q ≤ p ∧ p < q + d) ↔ (q ≤ p ∧ p < q + (d + 1)) := by omega
      by_cases h : q ≤ p ∧ p < q + d
      · rw [if_pos h, if_pos (this.mp h)]
      · rw [if_neg h, if_neg (fun z => h (this.mpr z))]
theorem pOut_eq {q : Nat} (hq : q < n) (p : Nat) : pOut π n q p = π (if p = n - 1 then q else if q ≤ p ∧ p < n - 1 then p + 1 else p) := by
  unfold pOut
  by_cases he : p = n - 1
  · rw [if_pos he, he, va_up_self]
  · rw [if_neg he, va_up_ne _ _ he, tkp_eq]
    have : (q ≤ p ∧ p < q + (n - 1 - q)) ↔ (q ≤ p ∧ p < n - 1) := by omega
    by_cases h : q ≤ p ∧ p < n - 1
    · rw [if_pos h, if_pos (this.mpr h)]
    · rw [if_neg h, if_neg (fun z => h (this.mp z))]
theorem bR.out (hb : bR v π n σ w) {q : Nat} (hq : q < n) : bR (vOut v n) (pOut π n q) (n - 1) (fun p => σ (if p < q then p else p + 1)) (up2 w 4 (σ q) (-1)) := by
  have h40 := hb.n40
  have hs : ∀ p, p < n - 1 → pOut π n q p = π (if p < q then p else p + 1) := by
    intro p hp
    rw [pOut_eq hq, if_neg (by omega)]
    by_cases h : p < q
    · rw [if_pos h, if_neg (by omega)]
    · rw [if_neg h, if_pos (by omega)]
  have hl : ∀ p, p < n - 1 → (if p < q then p else p + 1) < n ∧ (if p < q then p else p + 1) ≠ q := by
    intro p hp
    split <;> omega
  have e : ∀ f j i, f ≠ 4 → vOut v n f j i = v f j i := fun f j i h => up3_f h
  exact bR_mk
    (bk := ⟨up3_s _ _ _ _ _, by omega, fun p hp => by
      rw [pOut_eq hq]
      refine hb.bk.2.2 _ ?_
      split
      · omega
      · split <;> omega⟩)
    (pij := fun p p' hp hp' h => by
      rw [pOut_eq hq, pOut_eq hq] at h
      have := hb.pij _ _ (by split <;> (try split) <;> omega) (by split <;> (try split) <;> omega) h
      split at this <;> split at this <;> (try split at this) <;> (try split at this) <;> omega)
    (slt := fun p hp => hb.slt _ (hl p hp).1)
    (sij := fun p p' hp hp' h => by
      have := hb.sij _ _ (hl p hp).1 (hl p' hp').1 h
      split at this <;> split at this <;> omega)
    (fre := fun s hs0 hn => by
      by_cases he : s = σ q
      · rw [he, up2_s]
      · rw [up2_i he]
        refine hb.fre s hs0 (fun p hp hc => ?_)
        by_cases h1 : p < q
        · exact hn p (by omega) (by rw [if_pos h1]; exact hc)
        · have h2 : p ≠ q := fun z => he (by rw [← hc, z])
          exact hn (p - 1) (by omega) (by rw [if_neg (by omega), show p - 1 + 1 = p by omega]; exact hc))
    (lst := fun p hp => by
      obtain ⟨h1, h2⟩ := hl p hp
      rw [hs p hp, e _ _ _ (by decide), up2_i (hb.sne h1 hq h2)]; exact hb.lst _ h1)
    (num := fun p hp => by rw [hs p hp, e _ _ _ (by decide), up2_f (by decide)]; exact hb.num _ (hl p hp).1)
    (lrg := fun p hp => by rw [hs p hp, e _ _ _ (by decide)]; exact hb.lrg _ (hl p hp).1)
    (nrg := fun p hp => by rw [hs p hp, e _ _ _ (by decide)]; exact hb.nrg _ (hl p hp).1)
    (srt := fun p p' h hp' => by
      rw [hs p (by omega), hs p' hp', e _ _ _ (by decide), e _ _ _ (by decide), e _ _ _ (by decide), e _ _ _ (by decide)]
      exact hb.srt _ _ (by split <;> split <;> omega) (hl p' hp').1)
    (tms := fun p hp => by
      rw [hs p hp, e _ _ _ (by decide), e _ _ _ (by decide), e _ _ _ (by decide), e _ _ _ (by decide), up2_f (by decide), up2_f (by decide), up2_f (by decide), up2_f (by decide)]
      exact hb.tms _ (hl p hp).1)
    (trg := fun p hp => by
      rw [hs p hp, e _ _ _ (by decide), e _ _ _ (by decide), e _ _ _ (by decide), e _ _ _ (by decide)]
      exact hb.trg _ (hl p hp).1)
    (mov := fun p hp ch hch => by rw [hs p hp, e _ _ _ (by decide), up2_f (by decide)]; exact hb.mov _ (hl p hp).1 ch hch)
    (mrg := fun p hp ch hch => by rw [hs p hp, e _ _ _ (by decide)]; exact hb.mrg _ (hl p hp).1 ch hch)
    (hld := fun p hp => by rw [hs p hp, e _ _ _ (by decide), hc_congr 64 (fun i _ => e _ _ _ (by decide))]; exact hb.hld _ (hl p hp).1)
    (mv := mV_up (by decide) hb.mv)
theorem oR.vout (ho : oR v w) {x y : Int32} {q : Nat} : oR (up3 v 4 0 0 x) (up2 w 4 q y) := ho.congr (fun f j i h => up3_f (by omega)) (fun f i h => up2_f (by omega))
theorem op_delete_0 (hb : bR v π n σ w) (ho : oR v w) {F M : Nat} (hF : F = 40) (hM : M = 64) {a b x r r' : Int32} {u : xS} {z : mS} {q : Nat} (hf : fndO v π n a b = some q) (hx : delPost v π n q x M r u) (hm : mDeP w a b x F M r' z) : z 0 0 = 0 ∧ r = r' ∧ rel u z := by
  obtain ⟨hq, ha, hbn⟩ := hb.fnd_some.mp hf
  have hlr := hb.lrg q hq
  have hnr := hb.nrg q hq
  rw [ha] at hlr
  rw [hbn] at hnr
  unfold mDeP at hm
  have h0 := w0_bR hb 0
  have h0o := w0_oR ho 0
  rw [hb.fnd hF, hf, if_neg (by simp), h0.fnd hF, hf] at hm
  have h00 : up2 w 0 0 0 0 0 = 0 := w0_0 _ _
  generalize up2 w 0 0 0 = W at hm h0 h0o h00
  unfold delPost delK at hx
  rw [ha, hbn] at hx
  unfold mNx at hm
  rw [h0.abv hF hlr.1 hnr.2] at hm
  simp only [Option.map_some] at hm
  unfold mDr at hm
  simp only at hm
  obtain ⟨rfl, rfl⟩ := hx
  obtain ⟨rfl, rfl⟩ := hm
  have hK : ∀ p, (if x = 0 then none else abvO v π n a b) = some p → p < n ∧ p ≠ q := by
    intro p hp
    split at hp
    · cases hp
    · obtain ⟨h1, h2, h3, -⟩ := (hb.abv_some hnr.2).mp hp
      exact ⟨h1, fun z => by rw [z, hbn] at h3; grind⟩
  have hnx : (if x = 0 then none else Option.map σ (abvO v π n a b)) = (if x = 0 then none else abvO v π n a b).map σ := by split <;> rfl
  rw [hnx]
  generalize (if x = 0 then none else abvO v π n a b) = K at hK
  have hj : ∀ p, p < n → p ≠ q → ∀ f c, kps v π (π q) M K f (π q) c = v f (π q) c := by
    intro _ _ _ f c
    cases K with
    | none => rfl
    | some p => exact kp_j (hb.pne hq (hK p rfl).1 (Ne.symm (hK p rfl).2)) M
  have hr : kps v π (π q) M K 16 (π q) 0 = v 16 (π q) 0 := by
    cases K with
    | none => rfl
    | some p => exact hj p (hK p rfl).1 (hK p rfl).2 16 0
  have h1 : bR (kps v π (π q) M K) π n σ (mDlo (mNo W F M (K.map σ)) (σ q) M (K.map σ)) := by
    cases K with
    | none => exact h0.nn M
    | some p => exact kp_rel h0 hF hM hq (hK p rfl).1 M (by omega)
  have h1o : oR (kps v π (π q) M K) (mDlo (mNo W F M (K.map σ)) (σ q) M (K.map σ)) := by
    cases K with
    | none => exact h0o.nn M
    | some p =>
      refine (h0o.nt (q := σ p) (F := F) M).ed (fun f j i h => ?_) (fun f i h _ => mDl_f (by omega) M)
      by_cases h9 : f = 16 ∨ f = 17
      · exact kp_j (by have := hb.plt (hK p rfl).1; omega) M
      · exact kp_f (by omega) (by omega) M
  refine ⟨?_, ?_, rel_of (h1.out hq) h1o.vout⟩
  · rw [up2_f (by decide)]
    cases K with
    | none => exact (mNn_f (by decide) M).trans h00
    | some p =>
      exact (mDl_f (by decide) M).trans ((mNt_f (by decide) M).trans h00)
  · rw [hr, h0.mvOf hM hq]
theorem op_delete_1 (hb : bR v π n σ w) (ho : oR v w) {F M : Nat} (hF : F = 40) {a b x r' : Int32} {z : mS} (hf : fndO v π n a b = none) (hm : mDeP w a b x F M r' z) : z 0 0 = 1 ∧ rel (v, π) z := by
  unfold mDeP at hm
  rw [hb.fnd hF, hf, if_pos (c := Option.map σ none = none) rfl] at hm
  obtain ⟨rfl, rfl⟩ := hm
  exact ⟨w0_0 _ _, rel_of (w0_bR hb 1) (w0_oR ho 1)⟩
/-! RECORD: the loops, value by value -/
theorem kp_17 {q : Nat} (hq : π q ≠ 40) : ∀ i c, kp v π q 40 i 17 (π q) c = if c < i ∧ ¬ v 17 40 c = -1 ∧ v 17 (π q) c = -1 then orU (trk v π c (some q)) else v 17 (π q) c := by
  intro i
  induction i with
  | zero => intro c; rw [if_neg (by omega)]; rfl
  | succ i ih =>
    intro c
    unfold kp
    rw [kp_j (Ne.symm hq), kp_c (j := π q) i (Nat.le_refl _), kp_trk]
    by_cases he : c = i
    · subst he
      by_cases h : ¬ v 17 40 c = -1 ∧ v 17 (π q) c = -1
      · rw [if_pos h, vPut_17, if_pos rfl, if_pos ⟨by omega, h⟩]
      · rw [if_neg h, if_neg (fun z => h z.2)]
        exact kp_c c (Nat.le_refl _)
    · have hi := ih c
      have : (c < i ∧ ¬ v 17 40 c = -1 ∧ v 17 (π q) c = -1) ↔ (c < i + 1 ∧ ¬ v 17 40 c = -1 ∧ v 17 (π q) c = -1) := ⟨fun z => ⟨by omega, z.2⟩, fun z => ⟨by omega, z.2⟩⟩
      simp only [this] at hi
      rw [← hi]
      split
      · rw [vPut_17, if_neg he]
      · rfl
theorem kp_h {q k : Nat} (h : v 16 (π q) 0 = hc v (π q) 64) (hr : ∀ c, c < 64 → ¬ orU (trk v π c (some q)) = -1) : ∀ i, i ≤ 64 → kp v π q k i 16 (π q) 0 = hc (kp v π q k i) (π q) 64 := by
  intro i
  induction i with
  | zero => intro _; exact h
  | succ i ih =>
    intro hi
    unfold kp
    rw [kp_trk]
    split
    · exact hc_put (hr i (by omega)) (by omega) (ih (by omega))
    · exact ih (by omega)
theorem pa_f {q k f j c : Nat} (h1 : f ≠ 16) (h2 : f ≠ 17) : ∀ i, pa v π q k i f j c = v f j c := by
  intro i
  induction i with
  | zero => rfl
  | succ i ih =>
    unfold pa
    split
    · rw [vPut_f h1 h2]; exact ih
    · exact ih
theorem pa_j {q k f j c : Nat} (h : j ≠ π q) : ∀ i, pa v π q k i f j c = v f j c := by
  intro i
  induction i with
  | zero => rfl
  | succ i ih =>
    unfold pa
    split
    · rw [vPut_j h]; exact ih
    · exact ih
theorem pa_17 {q : Nat} (hq : π q ≠ 40) : ∀ i c, pa v π q 40 i 17 (π q) c = if c < i ∧ ¬ v 17 40 c = -1 then v 17 40 c else v 17 (π q) c := by
  intro i
  induction i with
  | zero => intro c; rw [if_neg (by omega)]; rfl
  | succ i ih =>
    intro c
    unfold pa
    rw [pa_j (Ne.symm hq)]
    by_cases he : c = i
    · subst he
      have hi := ih c
      rw [if_neg (by omega)] at hi
      by_cases h : ¬ v 17 40 c = -1
      · rw [if_pos h, vPut_17, if_pos rfl, if_pos ⟨by omega, h⟩]
      · rw [if_neg h, if_neg (fun z => h z.2)]
        exact hi
    · have hi := ih c
      have : (c < i ∧ ¬ v 17 40 c = -1) ↔ (c < i + 1 ∧ ¬ v 17 40 c = -1) := ⟨fun z => ⟨by omega, z.2⟩, fun z => ⟨by omega, z.2⟩⟩
      simp only [this] at hi
      rw [← hi]
      split
      · rw [vPut_17, if_neg he]
      · rfl
theorem pa_h {q k : Nat} (h : v 16 (π q) 0 = hc v (π q) 64) : ∀ i, i ≤ 64 → pa v π q k i 16 (π q) 0 = hc (pa v π q k i) (π q) 64 := by
  intro i
  induction i with
  | zero => intro _; exact h
  | succ i ih =>
    intro hi
    unfold pa
    split
    · rename_i hz
      exact hc_put hz (by omega) (ih (by omega))
    · exact ih (by omega)
theorem mKp_f {x c f i : Nat} (h : f ≠ 10) : mKp w x c f i = w f i := by
  unfold mKp
  split
  · rw [up2_f h]
  · rfl
theorem mKpo_f {o : Option Nat} {c f i : Nat} (h : f ≠ 10) : mKpo w c o f i = w f i := by
  cases o with
  | none => rfl
  | some x => exact mKp_f h
theorem mRp_f {q : Nat} {nx : Option Nat} {f i : Nat} (h : f ≠ 10) : ∀ k, mRp w q nx k f i = w f i := by
  intro k
  induction k with
  | zero => rfl
  | succ k ih =>
    unfold mRp
    split
    · exact ih
    · rw [mKpo_f h, up2_f h]; exact ih
theorem mKpo_i {o : Option Nat} {c i : Nat} (h : ∀ x, o = some x → i ≠ 64 * x + c) : mKpo w c o 10 i = w 10 i := by
  cases o with
  | none => rfl
  | some x =>
    unfold mKpo mKp
    simp only
    split
    · rw [up2_i (h x rfl)]
    · rfl
theorem mRp_10 {q : Nat} {nx : Option Nat} (hn : nx ≠ some q) {s c : Nat} (hc : c < 64) : ∀ i, i ≤ 64 → mRp w q nx i 10 (64 * s + c) = if c < i ∧ ¬ w 2 c = -1 then (if s = q then s16 (w 2 c) else if nx = some s ∧ w 10 (64 * s + c) = -1 then s16 (if w 11 c = -1 then 300 else w 11 c) else w 10 (64 * s + c)) else w 10 (64 * s + c) := by
  intro i
  induction i with
  | zero => intro _; rw [if_neg (by omega)]; rfl
  | succ i ih =>
    intro hi
    have ih := ih (by omega)
    unfold mRp
    rw [mRp_f (f := 2) (by decide)]
    by_cases he : c = i
    · subst he
      rw [if_neg (c := c < c ∧ _) (by omega)] at ih
      by_cases h : w 2 c = -1
      · rw [if_pos h, if_neg (fun z => z.2 h)]; exact ih
      · rw [if_neg h, if_pos ⟨by omega, h⟩]
        by_cases hs : s = q
        · subst hs
          rw [if_pos rfl, mKpo_i (fun x hx => by
            have : x ≠ s := fun z => hn (by rw [hx, z])
            omega), up2_s]
        · rw [if_neg hs]
          have hne : 64 * s + c ≠ 64 * q + c := by omega
          by_cases hx : nx = some s
          · subst hx
            unfold mKpo mKp
            simp only
            rw [up2_i hne, up2_f (f' := 11) (by decide), mRp_f (f := 11) (by decide), ih]
            by_cases h3 : w 10 (64 * s + c) = -1
            · rw [if_pos h3, up2_s, if_pos (c := True ∧ w 10 (64 * s + c) = -1) ⟨trivial, h3⟩]
            · rw [if_neg h3, up2_i hne, if_neg (c := True ∧ w 10 (64 * s + c) = -1) (fun z => h3 z.2)]; exact ih
          · rw [if_neg (fun z => hx z.1), mKpo_i (fun x hx2 => by
              have : x ≠ s := fun z => hx (by rw [hx2, z])
              omega), up2_i hne]
            exact ih
    · have h1 : (c < i ∧ ¬ w 2 c = -1) ↔ (c < i + 1 ∧ ¬ w 2 c = -1) := ⟨fun z => ⟨by omega, z.2⟩, fun z => ⟨by omega, z.2⟩⟩
      simp only [h1] at ih
      rw [← ih]
      split
      · rfl
      · rw [mKpo_i (fun x _ => by omega), up2_i (by omega)]
theorem mRp_v {q : Nat} {nx : Option Nat} (hv : mV w) (h2 : ∀ c, c < 64 → -1 ≤ w 2 c ∧ w 2 c < 272) (h11 : ∀ c x, c < 64 → nx = some x → -1 ≤ w 11 c ∧ (w 11 c < 272 ∨ w 11 c = 300)) : ∀ i, i ≤ 64 → mV (mRp w q nx i) := by
  intro i
  induction i with
  | zero => intro _; exact hv
  | succ i ih =>
    intro hi
    have ih := ih (by omega)
    unfold mRp
    rw [mRp_f (f := 2) (by decide)]
    split
    · exact ih
    · have hr := h2 i (by omega)
      have e1 : mV (up2 (mRp w q nx i) 10 (64 * q + i) (s16 (w 2 i))) := by
        intro s c hs hc
        by_cases he : 64 * s + c = 64 * q + i
        · rw [he, up2_s, s16_id (by grind) (by grind)]; exact Or.inl hr.2
        · rw [up2_i he]; exact ih s c hs hc
      generalize hX : up2 (mRp w q nx i) 10 (64 * q + i) (s16 (w 2 i)) = X at e1
      have h11' : X 11 i = w 11 i := by rw [← hX, up2_f (by decide), mRp_f (by decide)]
      cases nx with
      | none => exact e1
      | some x =>
        unfold mKpo mKp
        simp only
        split
        · rw [h11']
          have hk := h11 i x (by omega) rfl
          intro s c hs hc
          by_cases he : 64 * s + c = 64 * x + i
          · rw [he, up2_s, s16_id (by grind) (by grind)]
            by_cases h9 : w 11 i = -1
            · rw [if_pos h9]; exact Or.inr rfl
            · rw [if_neg h9]; exact hk.2
          · rw [up2_i he]; exact e1 s c hs hc
        · exact e1
/-- the loops of RECORD, related -/
theorem rec_rel (hb : bR v π n σ w) {M : Nat} (hM : M = 64) (hp2 : ∀ c, c < 64 → w 2 c = v 17 40 c) (hpr : ∀ c, c < 64 → -1 ≤ v 17 40 c ∧ v 17 40 c < 272) {q : Nat} (hq : q < n) {K : Option Nat} (hK : ∀ p, K = some p → p < n ∧ p ≠ q) (hk : ∀ p, K = some p → ∀ c, c < 64 → -1 ≤ w 11 c ∧ (w 11 c < 272 ∨ w 11 c = 300)) (hk2 : ∀ p, K = some p → ∀ c, c < 64 → v 17 (π p) c = -1 → w 11 c = cv (trk v π c (some p))) : bR (pa (kps v π 40 M K) π q 40 M) π n σ (mRp w (σ q) (K.map σ) M) := by
  have h40 : ∀ p, p < n → π p ≠ 40 := fun p hp => by have := hb.plt hp; omega
  have hnx : K.map σ ≠ some (σ q) := by
    intro h
    cases K with
    | none => cases h
    | some p =>
      have h1 := hK p rfl
      simp only [Option.map_some, Option.some.injEq] at h
      exact h1.2 (hb.sij p q h1.1 hq h)
  have kf : ∀ f j c, f ≠ 16 → f ≠ 17 → kps v π 40 M K f j c = v f j c := by
    intro f j c h1 h2
    cases K with
    | none => rfl
    | some p => exact kp_f h1 h2 M
  have kj : ∀ f j c, (∀ p, K = some p → j ≠ π p) → kps v π 40 M K f j c = v f j c := by
    intro f j c h
    cases K with
    | none => rfl
    | some p => exact kp_j (h p rfl) M
  have k40 : ∀ f c, kps v π 40 M K f 40 c = v f 40 c := fun f c => kj f 40 c (fun p hp => Ne.symm (h40 p (hK p hp).1))
  have kq : ∀ f c, kps v π 40 M K f (π q) c = v f (π q) c := fun f c => kj f (π q) c (fun p hp => hb.pne hq (hK p hp).1 (Ne.symm (hK p hp).2))
  have hrow : ∀ p, p < n → ∀ c, c < 64 → pa (kps v π 40 M K) π q 40 M 17 (π p) c = if p = q then (if ¬ v 17 40 c = -1 then v 17 40 c else v 17 (π q) c) else if K = some p ∧ ¬ v 17 40 c = -1 ∧ v 17 (π p) c = -1 then orU (trk v π c (some p)) else v 17 (π p) c := by
    intro p hp c hc
    by_cases he : p = q
    · subst he
      rw [if_pos rfl, pa_17 (h40 p hp), k40, kq]
      by_cases h : ¬ v 17 40 c = -1
      · rw [if_pos h, if_pos ⟨by omega, h⟩]
      · rw [if_neg h, if_neg (fun z => h z.2)]
    · rw [if_neg he, pa_j (hb.pne hp hq he)]
      by_cases hKp : K = some p
      · subst hKp
        show kp v π p 40 M 17 (π p) c = _
        rw [kp_17 (h40 p hp)]
        by_cases h : ¬ v 17 40 c = -1 ∧ v 17 (π p) c = -1
        · rw [if_pos ⟨by omega, h⟩, if_pos ⟨rfl, h⟩]
        · rw [if_neg (fun z => h z.2), if_neg (fun z => h z.2)]
      · rw [if_neg (fun z => hKp z.1)]
        exact kj 17 (π p) c (fun p' hp' => hb.pne hp (hK p' hp').1 (fun z => hKp (by rw [hp', z])))
  refine hb.moves (fun f j i h1 h2 => by rw [pa_f h1 h2]; exact kf f j i h1 h2) (fun f i h1 _ _ => mRp_f h1 M) (fun p hp c hc => ?_) (fun p hp c hc => ?_) (fun p hp => ?_) ?_
  · have hv := hrow p hp c hc
    rw [mRp_10 hnx hc M (by omega), hp2 c hc, hb.mov p hp c hc]
    have hpc := hpr c hc
    by_cases he : p = q
    · subst he
      rw [if_pos rfl] at hv
      rw [hv]
      by_cases h : v 17 40 c = -1
      · rw [if_neg (c := c < M ∧ ¬ v 17 40 c = -1) (fun z => z.2 h), if_neg (c := ¬ v 17 40 c = -1) (fun z => z h)]
      · rw [if_pos (c := c < M ∧ ¬ v 17 40 c = -1) ⟨by omega, h⟩, if_pos rfl, if_pos (c := ¬ v 17 40 c = -1) h, s16_id (by grind) (by grind)]
        unfold cv; grind
    · rw [if_neg he] at hv
      rw [hv]
      have hne : σ p ≠ σ q := hb.sne hp hq he
      have hKi : K.map σ = some (σ p) ↔ K = some p := by
        constructor
        · intro h
          cases K with
          | none => cases h
          | some p' =>
            simp only [Option.map_some, Option.some.injEq] at h
            rw [hb.sij p' p (hK p' rfl).1 hp h]
        · intro h; rw [h]; rfl
      by_cases h : v 17 40 c = -1
      · rw [if_neg (c := c < M ∧ ¬ v 17 40 c = -1) (fun z => z.2 h), if_neg (c := K = some p ∧ ¬ v 17 40 c = -1 ∧ v 17 (π p) c = -1) (fun z => z.2.1 h)]
      · rw [if_pos (c := c < M ∧ ¬ v 17 40 c = -1) ⟨by omega, h⟩, if_neg hne]
        by_cases h2 : K = some p ∧ v 17 (π p) c = -1
        · rw [if_pos (c := K = some p ∧ ¬ v 17 40 c = -1 ∧ v 17 (π p) c = -1) ⟨h2.1, h, h2.2⟩, if_pos (c := K.map σ = some (σ p) ∧ cv (v 17 (π p) c) = -1) ⟨hKi.mpr h2.1, (cv_m1 _).mpr h2.2⟩, hk2 p h2.1 c hc h2.2, un_cv]
          have hr := hb.trk_rg hc (X := some p) (fun q' hq' => by cases hq'; exact hp)
          have ho := orU_rg hr.1 hr.2
          exact cv_s16 (by grind) ho.2
        · rw [if_neg (c := K = some p ∧ ¬ v 17 40 c = -1 ∧ v 17 (π p) c = -1) (fun z => h2 ⟨z.1, z.2.2⟩), if_neg (c := K.map σ = some (σ p) ∧ cv (v 17 (π p) c) = -1) (fun z => h2 ⟨hKi.mp z.1, (cv_m1 _).mp z.2⟩)]
  · rw [hrow p hp c hc]
    have h1 := hb.mrg p hp c hc
    have h2 := hpr c hc
    have hr := hb.trk_rg hc (X := some p) (fun q' hq' => by cases hq'; exact hp)
    have ho := orU_rg hr.1 hr.2
    split
    · rename_i he
      subst he
      split
      · grind
      · exact h1
    · split
      · grind
      · exact h1
  · by_cases he : p = q
    · subst he
      refine pa_h ?_ M (by omega)
      rw [kq, hc_congr 64 (fun i _ => kq 17 i)]
      exact hb.hld p hp
    · rw [pa_j (hb.pne hp hq he), hc_congr (v := kps v π 40 M K) 64 (fun i _ => pa_j (hb.pne hp hq he) M)]
      by_cases hKp : K = some p
      · subst hKp
        refine kp_h (hb.hld p hp) (fun c hc => ?_) M (by omega)
        have hr := hb.trk_rg hc (X := some p) (fun q' hq' => by cases hq'; exact hp)
        have := orU_rg hr.1 hr.2
        grind
      · have hj : ∀ f c, kps v π 40 M K f (π p) c = v f (π p) c := fun f c => kj f (π p) c (fun p' hp' => hb.pne hp (hK p' hp').1 (fun z => hKp (by rw [hp', z])))
        rw [hj, hc_congr 64 (fun i _ => hj 17 i)]
        exact hb.hld p hp
  · refine mRp_v hb.mv (fun c hc => by rw [hp2 c hc]; exact hpr c hc) (fun c x hc hx => ?_) M (by omega)
    cases K with
    | none => cases hx
    | some p => exact hk p rfl c hc
end DR
