/-! SUMS -/
def sm (g : Nat → Int32) : Nat → Int32
  | 0 => 0
  | k + 1 => sm g k + g k
theorem sm_congr {g g' : Nat → Int32} : ∀ k, (∀ i, i < k → g i = g' i) → sm g k = sm g' k := by
  intro k
  induction k with
  | zero => intro _; rfl
  | succ k ih => intro h; unfold sm; rw [ih (fun i hi => h i (by omega)), h k (by omega)]
theorem sm_zero : ∀ k, sm (fun _ => 0) k = 0 := by
  intro k
  induction k with
  | zero => rfl
  | succ k ih => unfold sm; rw [ih]; rfl
theorem sm_add {g g' : Nat → Int32} : ∀ k, sm (fun i => g i + g' i) k = sm g k + sm g' k := by
  intro k
  induction k with
  | zero => rfl
  | succ k ih => unfold sm; rw [ih]; grind
theorem sm_swap {g : Nat → Nat → Int32} (n : Nat) : ∀ k, sm (fun q => sm (fun p => g p q) n) k = sm (fun p => sm (fun q => g p q) k) n := by
  intro k
  induction k with
  | zero => exact (sm_zero n).symm
  | succ k ih =>
    rw [show sm (fun q => sm (fun p => g p q) n) (k + 1) = sm (fun q => sm (fun p => g p q) n) k + sm (fun p => g p k) n from rfl, ih, ← sm_add]
    rfl
theorem sm_pick {f : Nat → Int32} {s : Nat} : ∀ k, sm (fun q => if s = q then f q else 0) k = if s < k then f s else 0 := by
  intro k
  induction k with
  | zero => rfl
  | succ k ih =>
    unfold sm
    rw [ih]
    by_cases h : s = k
    · subst h; rw [if_neg (Nat.lt_irrefl _), if_pos rfl, if_pos (Nat.lt_succ_self _)]; grind
    · by_cases h2 : s < k
      · rw [if_pos h2, if_neg h, if_pos (by omega)]; grind
      · rw [if_neg h2, if_neg h, if_neg (by omega)]; rfl
section BS
variable {v : Nat → Nat → Nat → Int32} {π : Nat → Nat} {n : Nat} {σ : Nat → Nat} {w : mS}
theorem bR.sum (h : bR v π n σ w) (f : Nat → Int32) {F : Nat} (hF : F = 40) : sm (fun q => if w 4 q < 0 then 0 else f q) F = sm (fun p => f (σ p)) n := by
  have h1 : ∀ q, q < F → (if w 4 q < 0 then 0 else f q) = sm (fun p => if σ p = q then f q else 0) n := by
    intro q hq
    by_cases hu : ∃ p, p < n ∧ σ p = q
    · obtain ⟨p, hp, rfl⟩ := hu
      have h2 : ¬ w 4 (σ p) < 0 := by have := h.lrg p hp; rw [h.lst p hp]; grind
      rw [if_neg h2]
      have h3 : sm (fun p' => if σ p' = σ p then f (σ p) else 0) n = sm (fun p' => if p = p' then f (σ p) else 0) n := by
        refine sm_congr n (fun p' hp' => ?_)
        by_cases he : p = p'
        · subst he; rw [if_pos rfl, if_pos rfl]
        · rw [if_neg he, if_neg (fun z => he (h.sij p p' hp hp' z.symm))]
      rw [h3, sm_pick n, if_pos hp]
    · have h2 : w 4 q = -1 := h.fre q (by omega) (fun p hp he => hu ⟨p, hp, he⟩)
      rw [if_pos (by rw [h2]; decide)]
      refine (Eq.trans (sm_congr n (fun p hp => ?_)) (sm_zero n)).symm
      rw [if_neg (fun he => hu ⟨p, hp, he⟩)]
  rw [sm_congr F h1, sm_swap]
  refine sm_congr n (fun p hp => ?_)
  rw [sm_pick F, if_pos (by have := h.slt p hp; omega)]
theorem sm_one : ∀ k, sm (fun _ => 1) k = nI k := by
  intro k
  induction k with
  | zero => rfl
  | succ k ih => unfold sm; rw [ih, nI_1]
theorem mCc_sm : ∀ k, mCc w k = sm (fun q => if w 4 q < 0 then 0 else 1) k := by
  intro k
  induction k with
  | zero => rfl
  | succ k ih => unfold mCc sm; rw [ih]
theorem mMc_sm {M : Nat} : ∀ k, mMc w M k = sm (fun q => if w 4 q < 0 then 0 else mMv w q M) k := by
  intro k
  induction k with
  | zero => rfl
  | succ k ih => unfold mMc sm; rw [ih]
theorem mvs_sm : ∀ k, mvs v π k = sm (fun p => v 16 (π p) 0) k := by
  intro k
  induction k with
  | zero => rfl
  | succ k ih => unfold mvs sm; rw [ih]
theorem bR.cc (h : bR v π n σ w) {F : Nat} (hF : F = 40) : mCc w F = nI n := by
  rw [mCc_sm, h.sum (fun _ => 1) hF, sm_one]
theorem bR.mvk (h : bR v π n σ w) {p : Nat} (hp : p < n) : ∀ k, k ≤ 64 → mMv w (σ p) k = hc v (π p) k := by
  intro k
  induction k with
  | zero => intro _; rfl
  | succ k ih =>
    intro hk
    unfold mMv hc
    rw [ih (by omega), h.mov p hp k (by omega)]
    by_cases hz : v 17 (π p) k = -1
    · rw [if_pos hz, if_pos ((cv_m1 _).mpr hz)]; grind
    · rw [if_neg hz, if_neg (fun z => hz ((cv_m1 _).mp z))]
theorem bR.mvOf (h : bR v π n σ w) {M : Nat} (hM : M = 64) {p : Nat} (hp : p < n) : mMv w (σ p) M = v 16 (π p) 0 := by
  subst hM
  rw [h.mvk hp _ (Nat.le_refl _), h.hld p hp]
theorem bR.mc (h : bR v π n σ w) {F M : Nat} (hF : F = 40) (hM : M = 64) : mMc w M F = mvs v π n := by
  rw [mMc_sm, h.sum (fun q => mMv w q M) hF, mvs_sm]
  exact sm_congr n (fun p hp => h.mvOf hM hp)
/-- the length of a list; its cues in order -/
theorem mCl_sm {a : Int32} (ha : 0 ≤ a) : ∀ k, mCl w a k = sm (fun q => if w 4 q < 0 then 0 else if w 4 q = a then 1 else 0) k := by
  intro k
  induction k with
  | zero => rfl
  | succ k ih =>
    unfold mCl sm
    rw [ih]
    congr 1
    grind
theorem sm_rng (s e : Nat) : ∀ k, sm (fun p => if s ≤ p ∧ p < e then 1 else 0) k = nI (min e k - s) := by
  intro k
  induction k with
  | zero => simp [sm]; rfl
  | succ k ih =>
    unfold sm
    rw [ih]
    by_cases h : s ≤ k ∧ k < e
    · rw [if_pos h, nI_1]; congr 1; omega
    · rw [if_neg h]
      rw [show min e (k + 1) - s = min e k - s by omega]
      grind
/-- places of the list a are those from pFor a 0 up to pFor (a + 1) 0 -/
theorem bR.inL (h : bR v π n σ w) {a : Int32} (ha : isLst a) {p : Nat} (hp : p < n) : v 10 (π p) 0 = a ↔ pFor v π n a 0 ≤ p ∧ p < pFor v π n (a + 1) 0 := by
  have h1 := h.pf (a := a) (b := 0) hp
  have h2 := h.pf (a := a + 1) (b := 0) hp
  have h3 := h.nrg p hp
  have h4 := h.lrg p hp
  unfold bef at h1 h2
  have h5 : (pFor v π n a 0 ≤ p) ↔ ¬ p < pFor v π n a 0 := by omega
  rw [h5, ← h1, ← h2]
  have := ha.1
  have := ha.2
  grind
theorem bR.pf_mono (h : bR v π n σ w) {a : Int32} (ha : isLst a) : pFor v π n a 0 ≤ pFor v π n (a + 1) 0 := by
  apply Classical.byContradiction
  intro hc
  have h7 := pFor_le v π n a 0
  have h8 : bef v π a 0 (pFor v π n (a + 1) 0) := (h.pf (by omega)).mpr (by omega)
  have h9 : ¬ bef v π (a + 1) 0 (pFor v π n (a + 1) 0) := fun z => Nat.lt_irrefl _ ((h.pf (by omega)).mp z)
  have h3 := h.nrg (pFor v π n (a + 1) 0) (by omega)
  unfold bef at h8 h9
  have := ha.1
  have := ha.2
  grind
theorem bR.len (h : bR v π n σ w) {F : Nat} (hF : F = 40) {a : Int32} (ha : isLst a) : mCl w a F = nI (pFor v π n (a + 1) 0) - nI (pFor v π n a 0) := by
  rw [mCl_sm (by have := ha.1; grind), h.sum (fun q => if w 4 q = a then 1 else 0) hF]
  have h1 : sm (fun p => if w 4 (σ p) = a then (1 : Int32) else 0) n = sm (fun p => if pFor v π n a 0 ≤ p ∧ p < pFor v π n (a + 1) 0 then 1 else 0) n := by
    refine sm_congr n (fun p hp => ?_)
    rw [h.lst p hp]
    have := h.inL ha hp
    by_cases hz : v 10 (π p) 0 = a
    · rw [if_pos hz, if_pos (this.mp hz)]
    · rw [if_neg hz, if_neg (fun z => hz (this.mpr z))]
  have h2 := pFor_le v π n (a + 1) 0
  rw [h1, sm_rng, pk_sub (h.pf_mono ha)]
  congr 1
  omega
theorem bR.nth (h : bR v π n σ w) {F : Nat} (hF : F = 40) {a : Int32} (ha : isLst a) : ∀ k, pFor v π n a 0 + k < pFor v π n (a + 1) 0 → mCw w a F k = some (σ (pFor v π n a 0 + k)) := by
  have hle := pFor_le v π n (a + 1) 0
  have ha0 : 0 ≤ a := by have := ha.1; grind
  intro k
  induction k with
  | zero =>
    intro hk
    unfold mCw
    rw [h.abv hF ha0 (by decide)]
    have h1 : abvO v π n a 0 = some (pFor v π n a 0) := by
      have hl := (h.inL ha (p := pFor v π n a 0) (by omega)).mpr ⟨Nat.le_refl _, by omega⟩
      refine (h.abv_some (by decide)).mpr ⟨by omega, hl, by have := h.nrg (pFor v π n a 0) (by omega); grind, fun p' hp' h2 _ => ((h.inL ha hp').mp h2).1⟩
    rw [h1]; rfl
  | succ k ih =>
    intro hk
    have ih := ih (by omega)
    unfold mCw
    rw [ih]
    simp only
    have hp : pFor v π n a 0 + k < n := by omega
    have hp1 : pFor v π n a 0 + (k + 1) < n := by omega
    have hn := h.nrg _ hp
    rw [h.num _ hp, h.abv hF ha0 (by grind)]
    have hl := (h.inL ha hp).mpr ⟨by omega, by omega⟩
    have hl1 := (h.inL ha hp1).mpr ⟨by omega, by omega⟩
    have h1 : abvO v π n a (v 11 (π (pFor v π n a 0 + k)) 0) = some (pFor v π n a 0 + (k + 1)) := by
      refine (h.abv_some (by grind)).mpr ⟨hp1, hl1, ?_, fun p' hp' h2 h3 => ?_⟩
      · have := h.srt (pFor v π n a 0 + k) (pFor v π n a 0 + (k + 1)) (by omega) hp1
        grind
      · have := (h.mono hp' hp (by rw [h2, hl]))
        have : ¬ p' ≤ pFor v π n a 0 + k := fun z => by have := this.mpr z; grind
        omega
    rw [h1]; rfl
theorem bR.fre0 (h : bR v π n σ w) {F : Nat} (hF : F = 40) (hn : n < 40) : ∃ s, mFre w F = some s ∧ s < 40 ∧ w 4 s = -1 ∧ ∀ p, p < n → σ p ≠ s := by
  cases hm : mFre w F with
  | none =>
    have h1 := mFre_none F hm
    rw [h.cc hF, hF] at h1
    have h2 := nI_lt hn (by decide)
    rw [h1] at h2
    grind
  | some s =>
    obtain ⟨h1, h2, -⟩ := mFre_some F s hm
    have h3 : ∀ p, p < n → σ p ≠ s := by
      rintro p hp rfl
      have := h.lrg p hp
      rw [h.lst p hp] at h2
      grind
    exact ⟨s, rfl, by omega, h.fre s (by omega) h3, h3⟩
end BS
