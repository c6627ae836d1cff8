/-! RECORD: a cue is made -/
section IN
variable {v : Nat → Nat → Nat → Int32} {π : Nat → Nat} {n : Nat} {σ : Nat → Nat} {w : mS}
theorem isp_eq : ∀ d p, d ≤ n → isp π n d p = if n - d < p ∧ p ≤ n then π (p - 1) else π p := by
  intro d
  induction d with
  | zero => intro p _; rw [if_neg (by omega)]; rfl
  | succ d ih =>
    intro p hd
    unfold isp
    by_cases he : p = n - d
    · rw [he, va_up_self, ih _ (by omega), if_neg (by omega), if_pos (by omega)]
    · rw [va_up_ne _ _ he, ih _ (by omega)]
      have : (n - d < p ∧ p ≤ n) ↔ (n - (d + 1) < p ∧ p ≤ n) := by omega
      by_cases h : n - d < p ∧ p ≤ n
      · rw [if_pos h, if_pos (this.mp h)]
      · rw [if_neg h, if_neg (fun z => h (this.mpr z))]
theorem pIns_eq {q : Nat} (hq : q ≤ n) (p : Nat) : pIns π n q p = π (if p = q then n else if q < p ∧ p ≤ n then p - 1 else p) := by
  unfold pIns
  by_cases he : p = q
  · rw [if_pos he, he, va_up_self]
  · rw [if_neg he, va_up_ne _ _ he, isp_eq _ _ (by omega)]
    have : (n - (n - q) < p ∧ p ≤ n) ↔ (q < p ∧ p ≤ n) := by omega
    by_cases h : q < p ∧ p ≤ n
    · rw [if_pos h, if_pos (this.mpr h)]
    · rw [if_neg h, if_neg (fun z => h (this.mp z))]
theorem vIns_j {a b : Int32} {f j i : Nat} (h : j ≠ π n) (hf : f ≠ 4) : vIns v π n a b f j i = v f j i := by
  unfold vIns vBegin
  rw [vDropAll_j h, up3_j h, up3_j h, up3_j h, up3_j h, up3_j h, up3_j h, up3_f hf]
theorem vIns_f {a b : Int32} {f j i : Nat} (hf : f < 10 ∨ 17 < f) (h4 : f ≠ 4) : vIns v π n a b f j i = v f j i := by
  unfold vIns vBegin
  rw [vDropAll_f (by omega) (by omega), up3_f (by omega), up3_f (by omega), up3_f (by omega), up3_f (by omega), up3_f (by omega), up3_f (by omega), up3_f h4]
theorem vIns_n {a b : Int32} : vIns v π n a b 10 (π n) 0 = a ∧ vIns v π n a b 11 (π n) 0 = b ∧ vIns v π n a b 12 (π n) 0 = 0 ∧ vIns v π n a b 13 (π n) 0 = 0 ∧ vIns v π n a b 14 (π n) 0 = 0 ∧ vIns v π n a b 15 (π n) 0 = -1 ∧ vIns v π n a b 16 (π n) 0 = 0 ∧ ∀ i, i < 64 → vIns v π n a b 17 (π n) i = -1 := by
  unfold vIns vBegin
  refine ⟨?_, ?_, ?_, ?_, ?_, ?_, vDropAll_16, fun i hi => by rw [vDropAll_17, if_pos hi]⟩
  all_goals rw [vDropAll_f (by decide) (by decide)]
  all_goals simp [up3]
theorem mMk_f {a b : Int32} {s f i : Nat} (hf : f < 4 ∨ 10 < f) : ∀ k, mMk w a b s k f i = w f i := by
  intro k
  induction k with
  | zero =>
    unfold mMk mMk1
    rw [up2_f (by omega), up2_f (by omega), up2_f (by omega), up2_f (by omega), up2_f (by omega), up2_f (by omega)]
  | succ k ih => unfold mMk; rw [up2_f (by omega)]; exact ih
theorem mMk_i {a b : Int32} {s f i : Nat} (hf : f ≠ 10) (hi : i ≠ s) : ∀ k, mMk w a b s k f i = w f i := by
  intro k
  induction k with
  | zero =>
    unfold mMk mMk1
    rw [up2_i hi, up2_i hi, up2_i hi, up2_i hi, up2_i hi, up2_i hi]
  | succ k ih => unfold mMk; rw [up2_f hf]; exact ih
theorem mMk_s {a b : Int32} {s : Nat} : ∀ k, mMk w a b s k 4 s = a ∧ mMk w a b s k 5 s = b ∧ mMk w a b s k 6 s = 0 ∧ mMk w a b s k 7 s = 0 ∧ mMk w a b s k 8 s = 0 ∧ mMk w a b s k 9 s = -1 := by
  intro k
  induction k with
  | zero =>
    unfold mMk mMk1
    simp [up2]
  | succ k ih =>
    unfold mMk
    rw [up2_f (by decide), up2_f (by decide), up2_f (by decide), up2_f (by decide), up2_f (by decide), up2_f (by decide)]
    exact ih
theorem mMk_10 {a b : Int32} {s s' c : Nat} (hc : c < 64) : ∀ k, k ≤ 64 → mMk w a b s k 10 (64 * s' + c) = if s' = s ∧ c < k then -1 else w 10 (64 * s' + c) := by
  intro k
  induction k with
  | zero =>
    intro _
    rw [if_neg (by omega)]
    unfold mMk mMk1
    rw [up2_f (by decide), up2_f (by decide), up2_f (by decide), up2_f (by decide), up2_f (by decide), up2_f (by decide)]
  | succ k ih =>
    intro hk
    unfold mMk
    by_cases he : s' = s ∧ c = k
    · rw [if_pos (by omega), he.1, he.2, up2_s, s16_id (by decide) (by decide)]
    · rw [up2_i (by omega), ih (by omega)]
      have : (s' = s ∧ c < k) ↔ (s' = s ∧ c < k + 1) := by omega
      by_cases h : s' = s ∧ c < k
      · rw [if_pos h, if_pos (this.mp h)]
      · rw [if_neg h, if_neg (fun z => h (this.mpr z))]
theorem bR.ins (hb : bR v π n σ w) (hn : n < 40) {a b : Int32} (hf : fndO v π n a b = none) (ha : isLst a) (hnb : isNum b) {s : Nat} (hs : s < 40) (hsf : ∀ p, p < n → σ p ≠ s) {M : Nat} (hM : M = 64) : bR (vIns v π n a b) (pIns π n (pFor v π n a b)) (n + 1) (fun p => if p < pFor v π n a b then σ p else if p = pFor v π n a b then s else σ (p - 1)) (mMk w a b s M) := by
  have hql := pFor_le v π n a b
  have hpf := fun p (hp : p < n) => hb.pf (a := a) (b := b) hp
  have hnf : ∀ p, p < n → v 10 (π p) 0 = a → v 11 (π p) 0 = b → False := fun p hp h1 h2 => by
    have := hb.fnd_some.mpr ⟨hp, h1, h2⟩
    rw [hf] at this
    cases this
  generalize hq : pFor v π n a b = q at hql hpf ⊢
  have h10 : isLst a := ha
  unfold isLst at ha
  unfold isNum at hnb
  obtain ⟨n1, n2, n3, n4, n5, n6, n7, n8⟩ := vIns_n (v := v) (π := π) (n := n) (a := a) (b := b)
  obtain ⟨m1, m2, m3, m4, m5, m6⟩ := mMk_s (w := w) (a := a) (b := b) (s := s) M
  have hpn : ∀ p, p < n → π p ≠ π n := fun p hp z => by have := hb.pij p n (by omega) hn z; omega
  -- the place p of the new book is the new cue, or a place of the old
  have hcase : ∀ p, p < n + 1 → (p = q ∧ pIns π n q p = π n ∧ (if p < q then σ p else if p = q then s else σ (p - 1)) = s) ∨ (p ≠ q ∧ ∃ p0, p0 < n ∧ p0 = (if p < q then p else p - 1) ∧ pIns π n q p = π p0 ∧ (if p < q then σ p else if p = q then s else σ (p - 1)) = σ p0) := by
    intro p hp
    rw [pIns_eq hql]
    by_cases h1 : p = q
    · left
      exact ⟨h1, by rw [if_pos h1], by rw [if_neg (by omega), if_pos h1]⟩
    · right
      refine ⟨h1, ?_⟩
      by_cases h2 : p < q
      · exact ⟨p, by omega, by rw [if_pos h2], by rw [if_neg h1, if_neg (by omega)], by rw [if_pos h2]⟩
      · exact ⟨p - 1, by omega, by rw [if_neg h2], by rw [if_neg h1, if_pos (by omega)], by rw [if_neg h2, if_neg h1]⟩
  have eo : ∀ p0, p0 < n → ∀ f i, f ≠ 4 → vIns v π n a b f (π p0) i = v f (π p0) i := fun p0 h0 f i hf => vIns_j (hpn p0 h0) hf
  have eg : ∀ p0, p0 < n → ∀ f, f ≠ 10 → mMk w a b s M f (σ p0) = w f (σ p0) := fun p0 h0 f hf => mMk_i hf (hsf p0 h0) M
  exact bR_mk
    (bk := ⟨by unfold vIns; rw [vBegin_4, up3_s], by omega, fun p hp => by
      rw [pIns_eq hql]
      refine hb.bk.2.2 _ ?_
      split
      · omega
      · split <;> omega⟩)
    (pij := fun p p' hp hp' h => by
      rw [pIns_eq hql, pIns_eq hql] at h
      have := hb.pij _ _ (by split <;> (try split) <;> omega) (by split <;> (try split) <;> omega) h
      split at this <;> split at this <;> (try split at this) <;> (try split at this) <;> omega)
    (slt := fun p hp => by
      rcases hcase p hp with ⟨h1, h2, h3⟩ | ⟨h1, p0, h2, -, h3, h4⟩
      · simp only [h3]; exact hs
      · simp only [h4]; exact hb.slt p0 h2)
    (sij := fun p p' hp hp' h => by
      rcases hcase p hp with ⟨h1, h2, h3⟩ | ⟨h1, p0, h2, e0, h3, h4⟩
      · rcases hcase p' hp' with ⟨k1, k2, k3⟩ | ⟨k1, p1, k2, e1, k3, k4⟩
        · omega
        · rw [h3, k4] at h
          exact absurd h.symm (hsf p1 k2)
      · rcases hcase p' hp' with ⟨k1, k2, k3⟩ | ⟨k1, p1, k2, e1, k3, k4⟩
        · rw [h4, k3] at h
          exact absurd h (hsf p0 h2)
        · rw [h4, k4] at h
          have := hb.sij p0 p1 h2 k2 h
          rw [e0, e1] at this
          split at this <;> split at this <;> omega)
    (fre := fun t ht hno => by
      have h1 : t ≠ s := by
        rintro rfl
        have := hno q (by omega)
        rw [if_neg (by omega), if_pos rfl] at this
        exact this rfl
      rw [mMk_i (by decide) h1]
      refine hb.fre t ht (fun p hp hc => ?_)
      by_cases h2 : p < q
      · have := hno p (by omega)
        rw [if_pos h2] at this
        exact this hc
      · have := hno (p + 1) (by omega)
        rw [if_neg (by omega), if_neg (by omega)] at this
        exact this hc)
    (lst := fun p hp => by
      rcases hcase p hp with ⟨h1, h2, h3⟩ | ⟨h1, p0, h2, -, h3, h4⟩
      · simp only [h3]; rw [h2, m1, n1]
      · simp only [h4]; rw [h3, eg p0 h2 4 (by decide), eo p0 h2 10 0 (by decide)]; exact hb.lst p0 h2)
    (num := fun p hp => by
      rcases hcase p hp with ⟨h1, h2, h3⟩ | ⟨h1, p0, h2, -, h3, h4⟩
      · simp only [h3]; rw [h2, m2, n2]
      · simp only [h4]; rw [h3, eg p0 h2 5 (by decide), eo p0 h2 11 0 (by decide)]; exact hb.num p0 h2)
    (lrg := fun p hp => by
      rcases hcase p hp with ⟨h1, h2, h3⟩ | ⟨h1, p0, h2, -, h3, h4⟩
      · rw [h2, n1]; grind
      · rw [h3, eo p0 h2 10 0 (by decide)]; exact hb.lrg p0 h2)
    (nrg := fun p hp => by
      rcases hcase p hp with ⟨h1, h2, h3⟩ | ⟨h1, p0, h2, -, h3, h4⟩
      · rw [h2, n2]; grind
      · rw [h3, eo p0 h2 11 0 (by decide)]; exact hb.nrg p0 h2)
    (srt := fun p p' hlt hp' => by
      rcases hcase p (by omega) with ⟨h1, h2, h3⟩ | ⟨h1, p0, h2, e0, h3, h4⟩
      · rcases hcase p' hp' with ⟨k1, k2, k3⟩ | ⟨k1, p1, k2, e1, k3, k4⟩
        · omega
        · rw [h2, k3, n1, n2, eo p1 k2 10 0 (by decide), eo p1 k2 11 0 (by decide)]
          rw [if_neg (by omega)] at e1
          have h5 : ¬ bef v π a b p1 := fun z => by have := (hpf p1 k2).mp z; omega
          have h6 := hnf p1 k2
          unfold bef at h5
          grind
      · rcases hcase p' hp' with ⟨k1, k2, k3⟩ | ⟨k1, p1, k2, e1, k3, k4⟩
        · rw [h3, k2, n1, n2, eo p0 h2 10 0 (by decide), eo p0 h2 11 0 (by decide)]
          rw [if_pos (by omega)] at e0
          have h5 : bef v π a b p0 := (hpf p0 h2).mpr (by omega)
          unfold bef at h5
          exact h5
        · rw [h3, k3, eo p0 h2 10 0 (by decide), eo p0 h2 11 0 (by decide), eo p1 k2 10 0 (by decide), eo p1 k2 11 0 (by decide)]
          refine hb.srt p0 p1 ?_ k2
          rw [e0, e1]
          split <;> split <;> omega)
    (tms := fun p hp => by
      rcases hcase p hp with ⟨h1, h2, h3⟩ | ⟨h1, p0, h2, -, h3, h4⟩
      · simp only [h3]; rw [h2, m3, m4, m5, m6, n3, n4, n5, n6]; exact ⟨rfl, rfl, rfl, rfl⟩
      · simp only [h4]; rw [h3, eg p0 h2 6 (by decide), eg p0 h2 7 (by decide), eg p0 h2 8 (by decide), eg p0 h2 9 (by decide), eo p0 h2 12 0 (by decide), eo p0 h2 13 0 (by decide), eo p0 h2 14 0 (by decide), eo p0 h2 15 0 (by decide)]; exact hb.tms p0 h2)
    (trg := fun p hp => by
      rcases hcase p hp with ⟨h1, h2, h3⟩ | ⟨h1, p0, h2, -, h3, h4⟩
      · rw [h2, n3, n4, n5, n6]; exact ⟨by decide, by decide, by decide, Or.inl rfl⟩
      · rw [h3, eo p0 h2 12 0 (by decide), eo p0 h2 13 0 (by decide), eo p0 h2 14 0 (by decide), eo p0 h2 15 0 (by decide)]; exact hb.trg p0 h2)
    (mov := fun p hp c hc => by
      rcases hcase p hp with ⟨h1, h2, h3⟩ | ⟨h1, p0, h2, -, h3, h4⟩
      · simp only [h3]; rw [h2, n8 c hc, mMk_10 hc M (by omega), if_pos ⟨rfl, by omega⟩]; rfl
      · simp only [h4]; rw [h3, eo p0 h2 17 c (by decide), mMk_10 hc M (by omega), if_neg (fun z => hsf p0 h2 z.1)]; exact hb.mov p0 h2 c hc)
    (mrg := fun p hp c hc => by
      rcases hcase p hp with ⟨h1, h2, h3⟩ | ⟨h1, p0, h2, -, h3, h4⟩
      · rw [h2, n8 c hc]; decide
      · rw [h3, eo p0 h2 17 c (by decide)]; exact hb.mrg p0 h2 c hc)
    (hld := fun p hp => by
      rcases hcase p hp with ⟨h1, h2, h3⟩ | ⟨h1, p0, h2, -, h3, h4⟩
      · rw [h2, n7, hc_none 64 n8]
      · rw [h3, eo p0 h2 16 0 (by decide), hc_congr 64 (fun i _ => eo p0 h2 17 i (by decide))]; exact hb.hld p0 h2)
    (mv := fun t c ht hc => by
      rw [mMk_10 hc M (by omega)]
      split
      · exact Or.inl (by decide)
      · exact hb.mv t c ht hc)
theorem oR.ins (ho : oR v w) {a b : Int32} {s M : Nat} (hp : π n ≠ 40) : oR (vIns v π n a b) (mMk w a b s M) := ho.congr (fun f j i h => by
  by_cases h1 : f = 16 ∨ f = 17
  · exact vIns_j (by omega) (by omega)
  · exact vIns_f (by omega) (by omega)) (fun f i h => mMk_f (by omega) M)
theorem sGo_s {a : Int32} {ch k : Nat} : sGo v π a ch (k + 1) = if v 10 (π k) 0 = a then (if v 17 (π k) ch = -1 then sGo v π a ch k else some k) else none := rfl
/-- what is tracked at the keeper does not see the new, empty cue -/
theorem ins_trk (hb : bR v π n σ w) (hn : n < 40) {a b : Int32} (hf : fndO v π n a b = none) (hnb : isNum b) {k : Nat} (hk : abvO v π n a b = some k) {c : Nat} (hc : c < 64) (hm : v 17 (π k) c = -1) : trk (vIns v π n a b) (pIns π n (pFor v π n a b)) c (some (k + 1)) = trk v π c (some k) := by
  unfold isNum at hnb
  have hb9 : b ≤ 9999 := by grind
  obtain ⟨h1, h2, h3, h4⟩ := (hb.abv_some hb9).mp hk
  have hql := pFor_le v π n a b
  have hpf := fun p (hp : p < n) => hb.pf (a := a) (b := b) hp
  have hnf : ∀ p, p < n → v 10 (π p) 0 = a → v 11 (π p) 0 = b → False := fun p hp h1 h2 => by
    have := hb.fnd_some.mpr ⟨hp, h1, h2⟩
    rw [hf] at this
    cases this
  obtain ⟨n1, n2, n3, n4, n5, n6, n7, n8⟩ := vIns_n (v := v) (π := π) (n := n) (a := a) (b := b)
  have hkq : k = pFor v π n a b := by
    have e1 : ¬ k < pFor v π n a b := fun z => by
      have := (hpf k h1).mpr z
      unfold bef at this
      grind
    apply Classical.byContradiction
    intro hne
    have hlt : pFor v π n a b < k := by omega
    have e2 : ¬ bef v π a b (pFor v π n a b) := fun z => Nat.lt_irrefl _ ((hpf _ (by omega)).mp z)
    have e3 := hb.srt _ _ hlt h1
    have e4 := hnf (pFor v π n a b) (by omega)
    unfold bef at e2
    have e5 : v 10 (π (pFor v π n a b)) 0 = a := by grind
    have e6 : b < v 11 (π (pFor v π n a b)) 0 := by grind
    have := h4 _ (by omega) e5 e6
    omega
  generalize hq : pFor v π n a b = q at *
  subst hkq
  have hpn : ∀ p, p < n → π p ≠ π n := fun p hp z => by have := hb.pij p n (by omega) hn z; omega
  have eo : ∀ p0, p0 < n → ∀ f i, f ≠ 4 → vIns v π n a b f (π p0) i = v f (π p0) i := fun p0 h0 f i hf => vIns_j (hpn p0 h0) hf
  have i1 : pIns π n k (k + 1) = π k := by rw [pIns_eq hql, if_neg (by omega), if_pos (by omega)]; rfl
  have i0 : pIns π n k k = π n := by rw [pIns_eq hql, if_pos rfl]
  have il : ∀ p, p < k → pIns π n k p = π p := fun p hp => by rw [pIns_eq hql, if_neg (by omega), if_neg (by omega)]
  have s1 : srcO (vIns v π n a b) (pIns π n k) c (some (k + 1)) = sGo (vIns v π n a b) (pIns π n k) a c k := by
    unfold srcO
    simp only
    rw [i1, eo k h1 10 0 (by decide), h2, sGo_s, i1, eo k h1 10 0 (by decide), if_pos h2, eo k h1 17 c (by decide), if_pos hm, sGo_s, i0, if_pos n1, if_pos (n8 c hc)]
  have s2 : srcO v π c (some k) = sGo v π a c k := by
    unfold srcO
    simp only
    rw [h2, sGo_s, if_pos h2, if_pos hm]
  have s3 : ∀ d, d ≤ k → sGo (vIns v π n a b) (pIns π n k) a c d = sGo v π a c d := by
    intro d
    induction d with
    | zero => intro _; rfl
    | succ d ih =>
      intro hd
      rw [sGo_s, sGo_s, ih (by omega), il d (by omega), eo d (by omega) 10 0 (by decide), eo d (by omega) 17 c (by decide)]
  unfold trk
  rw [s1, s2, s3 k (Nat.le_refl _)]
  cases hs : sGo v π a c k with
  | none => rfl
  | some p =>
    have hp := sGo_lt hs
    simp only
    rw [il p hp, eo p (by omega) 17 c (by decide)]
/-! how many moves come -/
theorem lk_rel (hb : bR v π n σ w) (ho : oR v w) {p : Nat} (hp : p < n) : ∀ k, k ≤ 64 → mKm w (σ p) k = lacks v (π p) 40 k := by
  intro k
  induction k with
  | zero => intro _; rfl
  | succ k ih =>
    intro hk
    unfold mKm lacks
    rw [ih (by omega), ho.prg k (by omega), hb.mov p hp k (by omega)]
    have h1 := cv_m1 (v 17 (π p) k)
    by_cases h : ¬ v 17 40 k = -1 ∧ v 17 (π p) k = -1
    · rw [if_pos h, if_pos ⟨h.1, h1.mpr h.2⟩]
    · rw [if_neg h, if_neg (fun z => h ⟨z.1, h1.mp z.2⟩)]
      grind
theorem kl_rel (hb : bR v π n σ w) (ho : oR v w) {M : Nat} (hM : M = 64) {K : Option Nat} (hK : ∀ p, K = some p → p < n) : mKo w M (K.map σ) = kl v π M K := by
  cases K with
  | none => rfl
  | some p => exact lk_rel hb ho (hK p rfl) M (by omega)
theorem nx_rel (hb : bR v π n σ w) {F : Nat} (hF : F = 40) {a b x : Int32} (ha : isLst a) (hnb : isNum b) : mNx w a b x F = (kpr v π n a b x).map σ := by
  unfold mNx kpr
  unfold isLst at ha
  unfold isNum at hnb
  by_cases h : x = 0
  · rw [if_pos h, if_pos h]; rfl
  · rw [if_neg h, if_neg h]
    exact hb.abv hF (by grind) (by grind)
theorem kpr_is (hb : bR v π n σ w) {a b x : Int32} (hnb : isNum b) {p : Nat} (h : kpr v π n a b x = some p) : abvO v π n a b = some p ∧ p < n ∧ v 10 (π p) 0 = a ∧ b < v 11 (π p) 0 := by
  unfold isNum at hnb
  unfold kpr at h
  split at h
  · cases h
  · have := (hb.abv_some (by grind)).mp h
    exact ⟨h, this.1, this.2.1, this.2.2.1⟩
theorem mNo_11 (hb : bR v π n σ w) {F M : Nat} (hF : F = 40) (hM : M = 64) {p : Nat} (hp : p < n) {c : Nat} (hc : c < 64) : mNo w F M (some (σ p)) 11 c = cv (trk v π c (some p)) := hb.kept hF hp (by omega) hc
theorem bR.no (hb : bR v π n σ w) {F M : Nat} (o : Option Nat) : bR v π n σ (mNo w F M o) := hb.congr (fun _ _ _ _ => rfl) (fun f i h1 h2 => mNo_f (by omega) o)
theorem oR.no (ho : oR v w) {F M : Nat} (o : Option Nat) : oR v (mNo w F M o) := ho.congr (fun _ _ _ _ => rfl) (fun f i h1 => mNo_f (by omega) o)
theorem pk_oR {v' : Nat → Nat → Nat → Int32} {w' : mS} {π' : Nat → Nat} {M q s : Nat} {K nx : Option Nat} (ho : oR v w) (h40 : π' q ≠ 40) (hK : ∀ p, K = some p → π' p ≠ 40) (hv : v' = pa (kps v π' 40 M K) π' q 40 M) (hw : w' = mRp w s nx M) : oR v' w' := by
  subst hv hw
  refine ho.ed (fun f j i h => ?_) (fun f i h _ => mRp_f (by omega) M)
  have e1 : kps v π' 40 M K f j i = v f j i := by
    cases K with
    | none => rfl
    | some p =>
      by_cases h9 : f = 16 ∨ f = 17
      · exact kp_j (by have := hK p rfl; omega) M
      · exact kp_f (by omega) (by omega) M
  by_cases h9 : f = 16 ∨ f = 17
  · rw [pa_j (by omega)]; exact e1
  · rw [pa_f (by omega) (by omega)]; exact e1
theorem full_iff (hb : bR v π n σ w) (ho : oR v w) {F M : Nat} (hF : F = 40) (hM : M = 64) {a b x : Int32} (ha : isLst a) (hnb : isNum b) : mRful w a b x F M ↔ (match fndO v π n a b with | none => n = 40 ∨ ¬ mvs v π n + (v 16 40 0 + kl v π M (kpr v π n a b x)) ≤ 600 | some q => ¬ mvs v π n + (lacks v (π q) 40 M + kl v π M (kpr v π n a b x)) ≤ 600) := by
  unfold mRful
  rw [nx_rel hb hF ha hnb, kl_rel hb ho hM (fun p hp => (kpr_is hb hnb hp).2.1), hb.mc hF hM, hb.cc hF, hb.fnd hF, Int32.add_assoc]
  cases hf : fndO v π n a b with
  | none =>
    simp only [Option.map_none, true_and]
    have e1 : mAdd w M none = v 16 40 0 := by
      show mPc w M = _
      rw [ho.pc M (by omega), ho.phl, hM]
    rw [e1]
    have h40 := hb.n40
    have e2 : nI n = 40 ↔ n = 40 := ⟨fun z => nI_inj (by omega) (by decide) z, fun z => by rw [z]; rfl⟩
    rw [e2]
  | some q =>
    simp only [Option.map_some]
    have hq := (hb.fnd_some.mp hf).1
    have e1 : mAdd w M (some (σ q)) = lacks v (π q) 40 M := lk_rel hb ho hq M (by omega)
    rw [e1]
    simp
theorem ok_iff (a b : Int32) : mROk a b ↔ (isLst a ∧ isNum b) := by unfold mROk isLst isNum; grind
/-- RECORD that is not refused -/
theorem rec_done (hb : bR v π n σ w) (ho : oR v w) {F M : Nat} (hF : F = 40) (hM : M = 64) {a b x r r' : Int32} {u : xS} {z : mS} (ha : isLst a) (hnb : isNum b) (hnf : ¬ mRful w a b x F M) (hx : recPost v π n a b x M r u) (hm : mRr w (mNo (up2 w 0 0 0) F M (mNx w a b x F)) a b (mNx w a b x F) F M r' z (mFnd w a b F)) : z 0 0 = 0 ∧ r = r' ∧ ¬ r = -1 ∧ rel u z := by
  have hful := mt (full_iff hb ho hF hM ha hnb).mpr hnf
  rw [nx_rel hb hF ha hnb, hb.fnd hF] at hm
  have hw0 := w0_bR hb 0
  have hw0o := w0_oR ho 0
  have h00 : up2 w 0 0 0 0 0 = 0 := w0_0 _ _
  have hKk := fun p (hp : kpr v π n a b x = some p) => kpr_is hb hnb hp
  unfold recPost at hx
  cases hf : fndO v π n a b with
  | none =>
    rw [hf] at hm hx hful
    simp only at hx hful
    rw [if_neg hful] at hx
    have hn : n < 40 := by
      have := hb.n40
      have h1 : ¬ n = 40 := fun y => hful (Or.inl y)
      omega
    obtain ⟨s, hs1, hs2, hs3, hs4⟩ := hb.fre0 hF hn
    unfold mRr at hm
    simp only [Option.map_none, hs1, Option.getD_some] at hm
    obtain ⟨hz, hr'⟩ := hm
    obtain ⟨hu, hr⟩ := hx
    have hql := pFor_le v π n a b
    have hi := (hw0.no (F := F) (M := M) ((kpr v π n a b x).map σ)).ins hn hf ha hnb hs2 hs4 hM
    have hio := (hw0o.no (F := F) (M := M) ((kpr v π n a b x).map σ)).ins (π := π) (n := n) (a := a) (b := b) (s := s) (M := M) (by have := hb.bk.2.2 n hn; omega)
    have hkq : ∀ k, kpr v π n a b x = some k → pFor v π n a b ≤ k := by
      intro k hk
      obtain ⟨k1, k2, k3, k4⟩ := hKk k hk
      apply Classical.byContradiction
      intro hc
      have := (hb.pf (a := a) (b := b) k2).mpr (by omega)
      unfold bef at this
      grind
    have hrel := rec_rel hi hM (q := pFor v π n a b) (K := (kpr v π n a b x).map (· + 1)) hio.prg hio.prr (by omega) (fun p hp => by
        cases hk : kpr v π n a b x with
        | none => rw [hk] at hp; cases hp
        | some k =>
          rw [hk] at hp
          simp only [Option.map_some, Option.some.injEq] at hp
          have := hkq k hk
          have := (hKk k hk).2.1
          omega) (fun p hp c hc => by
        cases hk : kpr v π n a b x with
        | none => rw [hk] at hp; cases hp
        | some k =>
          have hkn := (hKk k hk).2.1
          rw [mMk_f (by decide), Option.map_some, mNo_11 hw0 hF hM hkn hc]
          have hr := hw0.trk_rg hc (X := some k) (fun q' hq' => by cases hq'; exact hkn)
          exact ⟨by unfold cv; grind, cv_rg hr.2⟩) (fun p hp c hc hown => by
        cases hk : kpr v π n a b x with
        | none => rw [hk] at hp; cases hp
        | some k =>
          rw [hk] at hp
          simp only [Option.map_some, Option.some.injEq] at hp
          subst hp
          have hkn := (hKk k hk).2.1
          have e1 : pIns π n (pFor v π n a b) (k + 1) = π k := by
            have := hkq k hk
            rw [pIns_eq hql, if_neg (by omega), if_pos (by omega)]; rfl
          have hkk : π k ≠ π n := fun z => by have := hb.pij k n (by omega) hn z; omega
          rw [e1, vIns_j hkk (by decide)] at hown
          rw [mMk_f (by decide), Option.map_some, mNo_11 hw0 hF hM hkn hc, ins_trk hb hn hf hnb (hKk k hk).1 hc hown])
    have hsq : (fun p => if p < pFor v π n a b then σ p else if p = pFor v π n a b then s else σ (p - 1)) (pFor v π n a b) = s := by simp
    have hnx : Option.map (fun p => if p < pFor v π n a b then σ p else if p = pFor v π n a b then s else σ (p - 1)) ((kpr v π n a b x).map (· + 1)) = (kpr v π n a b x).map σ := by
      cases hk : kpr v π n a b x with
      | none => rfl
      | some k =>
        have := hkq k hk
        simp only [Option.map_some]
        rw [if_neg (by omega), if_neg (by omega)]
        rfl
    simp only [Nat.lt_irrefl, ↓reduceIte] at hrel
    rw [hnx, ← hz] at hrel
    have hpn : ∀ p, p < n + 1 → pIns π n (pFor v π n a b) p ≠ 40 := fun p hp => by have := hrel.plt hp; omega
    have hfo : oR u.1 z := pk_oR hio (π' := pIns π n (pFor v π n a b)) (q := pFor v π n a b) (K := (kpr v π n a b x).map (· + 1)) (hpn (pFor v π n a b) (by omega)) (fun p hp => by
        cases hk : kpr v π n a b x with
        | none => rw [hk] at hp; cases hp
        | some k =>
          rw [hk] at hp
          simp only [Option.map_some, Option.some.injEq] at hp
          have := (hKk k hk).2.1
          exact hpn p (by omega)) (by rw [hu]) hz
    subst hu
    have hmv := hrel.mvOf hM (p := pFor v π n a b) (by omega)
    simp only [Nat.lt_irrefl, ↓reduceIte] at hmv
    refine ⟨?_, ?_, ?_, rel_of hrel hfo⟩
    · rw [hz, mRp_f (by decide), mMk_f (by decide), mNo_f (by decide)]; exact h00
    · rw [hr, hr', hmv]
    · rw [hr]; exact hrel.held_nm1 (by omega)
  | some q =>
    rw [hf] at hm hx hful
    obtain ⟨hq, hqa, hqb⟩ := hb.fnd_some.mp hf
    have hpq := fndO_pf hf
    simp only at hx hful
    rw [← hpq] at hx
    rw [if_neg hful] at hx
    unfold mRr at hm
    simp only [Option.map_some] at hm
    obtain ⟨hz, hr'⟩ := hm
    obtain ⟨hu, hr⟩ := hx
    have hi := hw0.no (F := F) (M := M) ((kpr v π n a b x).map σ)
    have hio := hw0o.no (F := F) (M := M) ((kpr v π n a b x).map σ)
    have hrel := rec_rel hi hM (q := q) (K := kpr v π n a b x) hio.prg hio.prr hq (fun p hp => by
        obtain ⟨k1, k2, k3, k4⟩ := hKk p hp
        exact ⟨k2, fun z => by rw [z, hqb] at k4; grind⟩) (fun p hp c hc => by
        have hkn := (hKk p hp).2.1
        rw [hp, Option.map_some, mNo_11 hw0 hF hM hkn hc]
        have hr := hw0.trk_rg hc (X := some p) (fun q' hq' => by cases hq'; exact hkn)
        exact ⟨by unfold cv; grind, cv_rg hr.2⟩) (fun p hp c hc _ => by
        have hkn := (hKk p hp).2.1
        rw [hp, Option.map_some, mNo_11 hw0 hF hM hkn hc])
    rw [← hz] at hrel
    have hfo : oR u.1 z := pk_oR hio (π' := π) (q := q) (K := kpr v π n a b x) (by have := hb.plt hq; omega) (fun p hp => by have := hb.plt (hKk p hp).2.1; omega) (by rw [hu]) hz
    subst hu
    refine ⟨?_, ?_, ?_, rel_of hrel hfo⟩
    · rw [hz, mRp_f (by decide), mNo_f (by decide)]; exact h00
    · rw [hr, hr', hrel.mvOf hM hq]
    · rw [hr]; exact hrel.held_nm1 hq
theorem op_record_1 (hb : bR v π n σ w) (ho : oR v w) {F M : Nat} {a b x r' : Int32} {z : mS} (hn : ¬ (isLst a ∧ isNum b)) (hm : mRcP w a b x F M r' z) : z 0 0 = 1 ∧ rel (v, π) z := by
  unfold mRcP at hm
  rw [if_neg (fun y => hn ((ok_iff a b).mp y))] at hm
  obtain ⟨rfl, rfl⟩ := hm
  exact ⟨w0_0 _ _, rel_of (w0_bR hb 1) (w0_oR ho 1)⟩
theorem rec_ref (hb : bR v π n σ w) (ho : oR v w) {F M : Nat} (hF : F = 40) (hM : M = 64) {a b x r : Int32} {u : xS} (ha : isLst a) (hnb : isNum b) (hf : mRful w a b x F M) (hx : recPost v π n a b x M r u) : u = (v, π) ∧ r = -1 := by
  have h := (full_iff hb ho hF hM ha hnb).mp hf
  unfold recPost at hx
  cases hfn : fndO v π n a b with
  | none =>
    rw [hfn] at h hx
    simp only at h hx
    rw [if_pos h] at hx
    exact hx
  | some q =>
    rw [hfn] at h hx
    simp only at h hx
    rw [← fndO_pf hfn] at hx
    rw [if_pos h] at hx
    exact hx
theorem op_record_0 (hb : bR v π n σ w) (ho : oR v w) {F M : Nat} (hF : F = 40) (hM : M = 64) {a b x r r' : Int32} {u : xS} {z : mS} (hn : isLst a ∧ isNum b) (hr : ¬ r = -1) (hx : recPost v π n a b x M r u) (hm : mRcP w a b x F M r' z) : z 0 0 = 0 ∧ r = r' ∧ rel u z := by
  unfold mRcP at hm
  have h0 := w0_bR hb 0
  have h0o := w0_oR ho 0
  rw [if_pos ((ok_iff a b).mpr hn)] at hm
  by_cases hf : mRful (up2 w 0 0 0) a b x F M
  · exact absurd (rec_ref h0 h0o hF hM hn.1 hn.2 hf hx).2 hr
  · rw [if_neg hf] at hm
    have := rec_done h0 h0o hF hM hn.1 hn.2 hf hx hm
    exact ⟨this.1, this.2.1, this.2.2.2⟩
theorem op_record_2 (hb : bR v π n σ w) (ho : oR v w) {F M : Nat} (hF : F = 40) (hM : M = 64) {a b x r' : Int32} {u : xS} {z : mS} (hn : isLst a ∧ isNum b) (hx : recPost v π n a b x M (-1) u) (hm : mRcP w a b x F M r' z) : z 0 0 = 2 ∧ rel u z := by
  unfold mRcP at hm
  have h0 := w0_bR hb 0
  have h0o := w0_oR ho 0
  rw [if_pos ((ok_iff a b).mpr hn)] at hm
  by_cases hf : mRful (up2 w 0 0 0) a b x F M
  · rw [if_pos hf] at hm
    obtain ⟨rfl, rfl⟩ := hm
    obtain ⟨rfl, -⟩ := rec_ref h0 h0o hF hM hn.1 hn.2 hf hx
    exact ⟨w0_0 _ _, rel_of (w0_bR h0 2) (w0_oR h0o 2)⟩
  · rw [if_neg hf] at hm
    have := rec_done h0 h0o hF hM hn.1 hn.2 hf hx hm
    exact absurd rfl this.2.2.1
end IN
