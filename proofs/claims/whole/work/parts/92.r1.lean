/-! THE TWO STATES, RELATED. The class's cue at the place p of the book lies in the model's slot σ p. -/
def cv (x : Int32) : Int32 := if x = 272 then 300 else x
/-- how many of the first k channels the row j holds -/
def hc (v : Nat → Nat → Nat → Int32) (j : Nat) : Nat → Int32
  | 0 => 0
  | k + 1 => if v 17 j k = -1 then hc v j k else hc v j k + 1
/-- the book -/
def bR (v : Nat → Nat → Nat → Int32) (π : Nat → Nat) (n : Nat) (σ : Nat → Nat) (w : mS) : Prop :=
  (xBk v π n) ∧
  (∀ p p', p < 40 → p' < 40 → π p = π p' → p = p') ∧
  (∀ p, p < n → σ p < 40) ∧
  (∀ p p', p < n → p' < n → σ p = σ p' → p = p') ∧
  (∀ q, q < 40 → (∀ p, p < n → σ p ≠ q) → w 4 q = -1) ∧
  (∀ p, p < n → w 4 (σ p) = v 10 (π p) 0) ∧
  (∀ p, p < n → w 5 (σ p) = v 11 (π p) 0) ∧
  (∀ p, p < n → 0 ≤ v 10 (π p) 0 ∧ v 10 (π p) 0 < 4) ∧
  (∀ p, p < n → 1 ≤ v 11 (π p) 0 ∧ v 11 (π p) 0 ≤ 9999) ∧
  (∀ p p', p < p' → p' < n → v 10 (π p) 0 < v 10 (π p') 0 ∨ (v 10 (π p) 0 = v 10 (π p') 0 ∧ v 11 (π p) 0 < v 11 (π p') 0)) ∧
  (∀ p, p < n → w 6 (σ p) = v 12 (π p) 0 ∧ w 7 (σ p) = v 13 (π p) 0 ∧ w 8 (σ p) = v 14 (π p) 0 ∧ w 9 (σ p) = v 15 (π p) 0) ∧
  (∀ p, p < n → isTm (v 12 (π p) 0) ∧ isTm (v 13 (π p) 0) ∧ isTm (v 14 (π p) 0) ∧ (v 15 (π p) 0 = -1 ∨ isTm (v 15 (π p) 0))) ∧
  (∀ p, p < n → ∀ ch, ch < 64 → w 10 (64 * σ p + ch) = cv (v 17 (π p) ch)) ∧
  (∀ p, p < n → ∀ ch, ch < 64 → -1 ≤ v 17 (π p) ch ∧ v 17 (π p) ch ≤ 272) ∧
  (∀ p, p < n → v 16 (π p) 0 = hc v (π p) 64) ∧
  (mV w)
theorem bR.bk {v : Nat → Nat → Nat → Int32} {π : Nat → Nat} {n : Nat} {σ : Nat → Nat} {w : mS} (h : bR v π n σ w) : xBk v π n := h.1
theorem bR.pij {v : Nat → Nat → Nat → Int32} {π : Nat → Nat} {n : Nat} {σ : Nat → Nat} {w : mS} (h : bR v π n σ w) : ∀ p p', p < 40 → p' < 40 → π p = π p' → p = p' := h.2.1
theorem bR.slt {v : Nat → Nat → Nat → Int32} {π : Nat → Nat} {n : Nat} {σ : Nat → Nat} {w : mS} (h : bR v π n σ w) : ∀ p, p < n → σ p < 40 := h.2.2.1
theorem bR.sij {v : Nat → Nat → Nat → Int32} {π : Nat → Nat} {n : Nat} {σ : Nat → Nat} {w : mS} (h : bR v π n σ w) : ∀ p p', p < n → p' < n → σ p = σ p' → p = p' := h.2.2.2.1
theorem bR.fre {v : Nat → Nat → Nat → Int32} {π : Nat → Nat} {n : Nat} {σ : Nat → Nat} {w : mS} (h : bR v π n σ w) : ∀ q, q < 40 → (∀ p, p < n → σ p ≠ q) → w 4 q = -1 := h.2.2.2.2.1
theorem bR.lst {v : Nat → Nat → Nat → Int32} {π : Nat → Nat} {n : Nat} {σ : Nat → Nat} {w : mS} (h : bR v π n σ w) : ∀ p, p < n → w 4 (σ p) = v 10 (π p) 0 := h.2.2.2.2.2.1
theorem bR.num {v : Nat → Nat → Nat → Int32} {π : Nat → Nat} {n : Nat} {σ : Nat → Nat} {w : mS} (h : bR v π n σ w) : ∀ p, p < n → w 5 (σ p) = v 11 (π p) 0 := h.2.2.2.2.2.2.1
theorem bR.lrg {v : Nat → Nat → Nat → Int32} {π : Nat → Nat} {n : Nat} {σ : Nat → Nat} {w : mS} (h : bR v π n σ w) : ∀ p, p < n → 0 ≤ v 10 (π p) 0 ∧ v 10 (π p) 0 < 4 := h.2.2.2.2.2.2.2.1
theorem bR.nrg {v : Nat → Nat → Nat → Int32} {π : Nat → Nat} {n : Nat} {σ : Nat → Nat} {w : mS} (h : bR v π n σ w) : ∀ p, p < n → 1 ≤ v 11 (π p) 0 ∧ v 11 (π p) 0 ≤ 9999 := h.2.2.2.2.2.2.2.2.1
theorem bR.srt {v : Nat → Nat → Nat → Int32} {π : Nat → Nat} {n : Nat} {σ : Nat → Nat} {w : mS} (h : bR v π n σ w) : ∀ p p', p < p' → p' < n → v 10 (π p) 0 < v 10 (π p') 0 ∨ (v 10 (π p) 0 = v 10 (π p') 0 ∧ v 11 (π p) 0 < v 11 (π p') 0) := h.2.2.2.2.2.2.2.2.2.1
theorem bR.tms {v : Nat → Nat → Nat → Int32} {π : Nat → Nat} {n : Nat} {σ : Nat → Nat} {w : mS} (h : bR v π n σ w) : ∀ p, p < n → w 6 (σ p) = v 12 (π p) 0 ∧ w 7 (σ p) = v 13 (π p) 0 ∧ w 8 (σ p) = v 14 (π p) 0 ∧ w 9 (σ p) = v 15 (π p) 0 := h.2.2.2.2.2.2.2.2.2.2.1
theorem bR.trg {v : Nat → Nat → Nat → Int32} {π : Nat → Nat} {n : Nat} {σ : Nat → Nat} {w : mS} (h : bR v π n σ w) : ∀ p, p < n → isTm (v 12 (π p) 0) ∧ isTm (v 13 (π p) 0) ∧ isTm (v 14 (π p) 0) ∧ (v 15 (π p) 0 = -1 ∨ isTm (v 15 (π p) 0)) := h.2.2.2.2.2.2.2.2.2.2.2.1
theorem bR.mov {v : Nat → Nat → Nat → Int32} {π : Nat → Nat} {n : Nat} {σ : Nat → Nat} {w : mS} (h : bR v π n σ w) : ∀ p, p < n → ∀ ch, ch < 64 → w 10 (64 * σ p + ch) = cv (v 17 (π p) ch) := h.2.2.2.2.2.2.2.2.2.2.2.2.1
theorem bR.mrg {v : Nat → Nat → Nat → Int32} {π : Nat → Nat} {n : Nat} {σ : Nat → Nat} {w : mS} (h : bR v π n σ w) : ∀ p, p < n → ∀ ch, ch < 64 → -1 ≤ v 17 (π p) ch ∧ v 17 (π p) ch ≤ 272 := h.2.2.2.2.2.2.2.2.2.2.2.2.2.1
theorem bR.hld {v : Nat → Nat → Nat → Int32} {π : Nat → Nat} {n : Nat} {σ : Nat → Nat} {w : mS} (h : bR v π n σ w) : ∀ p, p < n → v 16 (π p) 0 = hc v (π p) 64 := h.2.2.2.2.2.2.2.2.2.2.2.2.2.2.1
theorem bR.mv {v : Nat → Nat → Nat → Int32} {π : Nat → Nat} {n : Nat} {σ : Nat → Nat} {w : mS} (h : bR v π n σ w) : mV w := h.2.2.2.2.2.2.2.2.2.2.2.2.2.2.2
theorem bR_mk {v : Nat → Nat → Nat → Int32} {π : Nat → Nat} {n : Nat} {σ : Nat → Nat} {w : mS} (bk : xBk v π n) (pij : ∀ p p', p < 40 → p' < 40 → π p = π p' → p = p') (slt : ∀ p, p < n → σ p < 40) (sij : ∀ p p', p < n → p' < n → σ p = σ p' → p = p') (fre : ∀ q, q < 40 → (∀ p, p < n → σ p ≠ q) → w 4 q = -1) (lst : ∀ p, p < n → w 4 (σ p) = v 10 (π p) 0) (num : ∀ p, p < n → w 5 (σ p) = v 11 (π p) 0) (lrg : ∀ p, p < n → 0 ≤ v 10 (π p) 0 ∧ v 10 (π p) 0 < 4) (nrg : ∀ p, p < n → 1 ≤ v 11 (π p) 0 ∧ v 11 (π p) 0 ≤ 9999) (srt : ∀ p p', p < p' → p' < n → v 10 (π p) 0 < v 10 (π p') 0 ∨ (v 10 (π p) 0 = v 10 (π p') 0 ∧ v 11 (π p) 0 < v 11 (π p') 0)) (tms : ∀ p, p < n → w 6 (σ p) = v 12 (π p) 0 ∧ w 7 (σ p) = v 13 (π p) 0 ∧ w 8 (σ p) = v 14 (π p) 0 ∧ w 9 (σ p) = v 15 (π p) 0) (trg : ∀ p, p < n → isTm (v 12 (π p) 0) ∧ isTm (v 13 (π p) 0) ∧ isTm (v 14 (π p) 0) ∧ (v 15 (π p) 0 = -1 ∨ isTm (v 15 (π p) 0))) (mov : ∀ p, p < n → ∀ ch, ch < 64 → w 10 (64 * σ p + ch) = cv (v 17 (π p) ch)) (mrg : ∀ p, p < n → ∀ ch, ch < 64 → -1 ≤ v 17 (π p) ch ∧ v 17 (π p) ch ≤ 272) (hld : ∀ p, p < n → v 16 (π p) 0 = hc v (π p) 64) (mv : mV w) : bR v π n σ w := ⟨bk, pij, slt, sij, fre, lst, num, lrg, nrg, srt, tms, trg, mov, mrg, hld, mv⟩
theorem bR.n40 {v : Nat → Nat → Nat → Int32} {π : Nat → Nat} {n : Nat} {σ : Nat → Nat} {w : mS} (h : bR v π n σ w) : n ≤ 40 := h.bk.2.1
section BR
variable {v : Nat → Nat → Nat → Int32} {π : Nat → Nat} {n : Nat} {σ : Nat → Nat} {w : mS}
/-- two places of one list and number are one -/
theorem bR.uniq (h : bR v π n σ w) {p p' : Nat} (hp : p < n) (hp' : p' < n) (h1 : v 10 (π p) 0 = v 10 (π p') 0) (h2 : v 11 (π p) 0 = v 11 (π p') 0) : p = p' := by
  rcases Nat.lt_trichotomy p p' with h3 | h3 | h3
  · have := h.srt p p' h3 hp'
    grind
  · exact h3
  · have := h.srt p' p h3 hp
    grind
/-- a slot that is used belongs to a place -/
theorem bR.used (h : bR v π n σ w) {q : Nat} (hq : q < 40) (h0 : ¬ w 4 q = -1) : ∃ p, p < n ∧ σ p = q := by
  apply Classical.byContradiction
  intro hc
  exact h0 (h.fre q hq (fun p hp he => hc ⟨p, hp, he⟩))
theorem pGo_spec (a b : Int32) : ∀ k p, (∀ p', p ≤ p' → p' < pGo v π a b k p → bef v π a b p') ∧ (pGo v π a b k p < p + k → ¬ bef v π a b (pGo v π a b k p)) ∧ p ≤ pGo v π a b k p := by
  intro k
  induction k with
  | zero => intro p; exact ⟨fun p' h1 h2 => by unfold pGo at h2; omega, fun h => by unfold pGo at h; omega, Nat.le_refl _⟩
  | succ k ih =>
    intro p
    unfold pGo
    split
    · rename_i hb
      obtain ⟨i1, i2, i3⟩ := ih (p + 1)
      refine ⟨fun p' h1 h2 => ?_, fun h1 => i2 (by omega), by omega⟩
      by_cases he : p' = p
      · rw [he]; exact hb
      · exact i1 p' (by omega) h2
    · rename_i hb
      exact ⟨fun p' h1 h2 => by omega, fun _ => hb, Nat.le_refl _⟩
theorem bR.pf (h : bR v π n σ w) {a b : Int32} {p : Nat} (hp : p < n) : bef v π a b p ↔ p < pFor v π n a b := by
  obtain ⟨i1, i2, i3⟩ := pGo_spec (v := v) (π := π) a b n 0
  constructor
  · intro hb
    apply Classical.byContradiction
    intro hc
    have hle : pFor v π n a b ≤ p := by omega
    have hn := i2 (by unfold pFor at hle; omega)
    apply hn
    change bef v π a b (pFor v π n a b)
    rcases Nat.lt_or_eq_of_le hle with h1 | h1
    · have := h.srt _ _ h1 hp
      unfold bef at *
      grind
    · rw [h1]; exact hb
  · intro hl
    exact i1 p (by omega) hl
theorem bR.fnd_some (h : bR v π n σ w) {a b : Int32} {p : Nat} : fndO v π n a b = some p ↔ p < n ∧ v 10 (π p) 0 = a ∧ v 11 (π p) 0 = b := by
  constructor
  · intro hf
    unfold fndO at hf
    split at hf
    · rename_i h1
      cases hf
      exact ⟨h1.1.1, h1.1.2, h1.2⟩
    · cases hf
  · rintro ⟨hp, h1, h2⟩
    have hnb : ¬ bef v π a b p := by unfold bef; grind
    have h3 : ¬ p < pFor v π n a b := fun z => hnb ((h.pf hp).mpr z)
    have h4 : pFor v π n a b = p := by
      apply Classical.byContradiction
      intro hc
      have h5 : pFor v π n a b < p := by omega
      have h6 := h.srt _ _ h5 hp
      have h7 : bef v π a b (pFor v π n a b) := by unfold bef; grind
      have := (h.pf (by omega)).mp h7
      omega
    unfold fndO
    rw [h4, if_pos ⟨⟨hp, h1⟩, h2⟩]
theorem bR.abv_some (h : bR v π n σ w) {a b : Int32} (hb : b ≤ 9999) {p : Nat} : abvO v π n a b = some p ↔ p < n ∧ v 10 (π p) 0 = a ∧ b < v 11 (π p) 0 ∧ ∀ p', p' < n → v 10 (π p') 0 = a → b < v 11 (π p') 0 → p ≤ p' := by
  constructor
  · intro hf
    unfold abvO at hf
    split at hf
    · rename_i h1
      cases hf
      refine ⟨h1.1, h1.2, ?_, fun p' hp' h2 h3 => ?_⟩
      · have h2 : ¬ bef v π a (b + 1) (pFor v π n a (b + 1)) := fun z => Nat.lt_irrefl _ ((h.pf h1.1).mp z)
        have h3 := h1.2
        unfold bef at h2
        grind
      · have h4 : ¬ bef v π a (b + 1) p' := by unfold bef; grind
        have := mt (h.pf (a := a) (b := b + 1) hp').mpr h4
        omega
    · cases hf
  · rintro ⟨hp, h1, h2, h3⟩
    have hnb : ¬ bef v π a (b + 1) p := by unfold bef; grind
    have h4 : ¬ p < pFor v π n a (b + 1) := fun z => hnb ((h.pf hp).mpr z)
    have h5 : pFor v π n a (b + 1) = p := by
      apply Classical.byContradiction
      intro hc
      have h6 : pFor v π n a (b + 1) < p := by omega
      have h7 := h.srt _ _ h6 hp
      have h8 : ¬ bef v π a (b + 1) (pFor v π n a (b + 1)) := fun z => Nat.lt_irrefl _ ((h.pf (by omega)).mp z)
      have h9 := h3 (pFor v π n a (b + 1)) (by omega)
      unfold bef at h8
      grind
    unfold abvO
    rw [h5, if_pos ⟨hp, h1⟩]
theorem bR.abv_none (h : bR v π n σ w) {a b : Int32} (hb : b ≤ 9999) (hn : abvO v π n a b = none) {p : Nat} (hp : p < n) (h1 : v 10 (π p) 0 = a) : ¬ b < v 11 (π p) 0 := by
  intro h2
  unfold abvO at hn
  split at hn
  · cases hn
  · rename_i h3
    apply h3
    have h4 : ¬ bef v π a (b + 1) p := by unfold bef; grind
    have h5 := mt (h.pf (a := a) (b := b + 1) hp).mpr h4
    have h6 : pFor v π n a (b + 1) < n := by omega
    refine ⟨h6, ?_⟩
    have h8 : ¬ bef v π a (b + 1) (pFor v π n a (b + 1)) := fun z => Nat.lt_irrefl _ ((h.pf h6).mp z)
    by_cases h9 : pFor v π n a (b + 1) = p
    · rw [h9]; exact h1
    · have h7 := h.srt _ _ (by omega : pFor v π n a (b + 1) < p) hp
      unfold bef at h8
      grind
theorem bR.blw_some (h : bR v π n σ w) {a b : Int32} {p : Nat} : blwO v π n a b = some p ↔ p < n ∧ v 10 (π p) 0 = a ∧ v 11 (π p) 0 < b ∧ ∀ p', p' < n → v 10 (π p') 0 = a → v 11 (π p') 0 < b → p' ≤ p := by
  constructor
  · intro hf
    unfold blwO at hf
    split at hf
    · cases hf
    · rename_i k hk
      split at hf
      · rename_i h1
        cases hf
        refine ⟨h1.1, h1.2, ?_, fun p' hp' h2 h3 => ?_⟩
        · have h2 : bef v π a b p := (h.pf h1.1).mpr (by omega)
          have h3 := h1.2
          unfold bef at h2
          grind
        · have h4 : bef v π a b p' := by unfold bef; grind
          have := (h.pf (a := a) (b := b) hp').mp h4
          omega
      · cases hf
  · rintro ⟨hp, h1, h2, h3⟩
    have hb : bef v π a b p := by unfold bef; grind
    have h4 := (h.pf hp).mp hb
    have h5 : pFor v π n a b = p + 1 := by
      apply Classical.byContradiction
      intro hc
      have h6 : p + 1 < pFor v π n a b := by omega
      have h7 := pFor_le v π n a b
      have h8 : bef v π a b (p + 1) := (h.pf (by omega)).mpr h6
      have h9 := h.srt p (p + 1) (by omega) (by omega)
      have h10 := h3 (p + 1) (by omega)
      unfold bef at h8
      have : v 10 (π (p + 1)) 0 = a := by grind
      have := h10 this (by grind)
      omega
    unfold blwO
    rw [h5]
    simp only
    rw [if_pos ⟨hp, h1⟩]
theorem bR.blw_none (h : bR v π n σ w) {a b : Int32} (hn : blwO v π n a b = none) {p : Nat} (hp : p < n) (h1 : v 10 (π p) 0 = a) : ¬ v 11 (π p) 0 < b := by
  intro h2
  have hb : bef v π a b p := by unfold bef; grind
  have h4 := (h.pf hp).mp hb
  unfold blwO at hn
  split at hn
  · rename_i h5; omega
  · rename_i k hk
    have h7 := pFor_le v π n a b
    split at hn
    · cases hn
    · rename_i h6
      apply h6
      refine ⟨by omega, ?_⟩
      have h8 : bef v π a b k := (h.pf (by omega)).mpr (by omega)
      by_cases h9 : k = p
      · rw [h9]; exact h1
      · have h10 := h.srt p k (by omega) (by omega)
        unfold bef at h8
        grind
/-! the model's -/
theorem mFnd_is {w : mS} {a b : Int32} : ∀ i q, mFnd w a b i = some q → q < i ∧ ¬ a < 0 ∧ w 4 q = a ∧ w 5 q = b := by
  intro i
  induction i with
  | zero => intro q h; cases h
  | succ i ih =>
    intro q h
    unfold mFnd at h
    split at h
    · rename_i h1; cases h; exact ⟨Nat.lt_succ_self _, h1⟩
    · have := ih q h; exact ⟨by omega, this.2⟩
theorem mFnd_no {w : mS} {a b : Int32} : ∀ i, mFnd w a b i = none → ∀ q, q < i → ¬ (¬ a < 0 ∧ w 4 q = a ∧ w 5 q = b) := by
  intro i
  induction i with
  | zero => intro _ q hq; omega
  | succ i ih =>
    intro h q hq
    unfold mFnd at h
    split at h
    · cases h
    · rename_i h1
      by_cases he : q = i
      · rw [he]; exact h1
      · exact ih h q (by omega)
theorem mAbv_no {w : mS} {a b : Int32} : ∀ i, mAbv w a b i = none → ∀ q, q < i → w 4 q = a → ¬ b < w 5 q := by
  intro i
  induction i with
  | zero => intro _ q hq; omega
  | succ i ih =>
    intro h q hq h4
    unfold mAbv at h
    by_cases he : q = i
    · subst he
      rw [if_pos h4] at h
      split at h
      · rename_i h5; grind
      · split at h
        · cases h
        · split at h <;> cases h
    · refine ih ?_ q (by omega) h4
      split at h
      · split at h
        · exact h
        · split at h
          · cases h
          · split at h <;> cases h
      · exact h
theorem mAbv_is {w : mS} {a b : Int32} : ∀ i q, mAbv w a b i = some q → q < i ∧ w 4 q = a ∧ b < w 5 q ∧ ∀ q', q' < i → w 4 q' = a → b < w 5 q' → w 5 q ≤ w 5 q' := by
  intro i
  induction i with
  | zero => intro q h; cases h
  | succ i ih =>
    intro q h
    have hno := mAbv_no (w := w) (a := a) (b := b) i
    unfold mAbv at h
    split at h
    · rename_i h4
      split at h
      · rename_i h5
        obtain ⟨i1, i2, i3, i4⟩ := ih q h
        refine ⟨by omega, i2, i3, fun q' hq' h6 h7 => ?_⟩
        by_cases he : q' = i
        · subst he; grind
        · exact i4 q' (by omega) h6 h7
      · rename_i h5
        split at h
        · rename_i h0
          cases h
          refine ⟨by omega, h4, by grind, fun q' hq' h6 h7 => ?_⟩
          by_cases he : q' = i
          · subst he; grind
          · exact absurd h7 (hno h0 q' (by omega) h6)
        · rename_i p hp
          obtain ⟨i1, i2, i3, i4⟩ := ih p hp
          split at h
          · rename_i h8
            cases h
            refine ⟨by omega, i2, i3, fun q' hq' h6 h7 => ?_⟩
            by_cases he : q' = i
            · subst he; exact h8
            · exact i4 q' (by omega) h6 h7
          · rename_i h8
            cases h
            refine ⟨by omega, h4, by grind, fun q' hq' h6 h7 => ?_⟩
            by_cases he : q' = i
            · subst he; grind
            · have := i4 q' (by omega) h6 h7
              grind
    · rename_i h4
      obtain ⟨i1, i2, i3, i4⟩ := ih q h
      refine ⟨by omega, i2, i3, fun q' hq' h6 h7 => ?_⟩
      by_cases he : q' = i
      · subst he; exact absurd h6 h4
      · exact i4 q' (by omega) h6 h7
theorem mBlw_no {w : mS} {a b : Int32} : ∀ i, mBlw w a b i = none → ∀ q, q < i → w 4 q = a → ¬ w 5 q < b := by
  intro i
  induction i with
  | zero => intro _ q hq; omega
  | succ i ih =>
    intro h q hq h4
    unfold mBlw at h
    by_cases he : q = i
    · subst he
      rw [if_pos h4] at h
      split at h
      · rename_i h5; grind
      · split at h
        · cases h
        · split at h <;> cases h
    · refine ih ?_ q (by omega) h4
      split at h
      · split at h
        · exact h
        · split at h
          · cases h
          · split at h <;> cases h
      · exact h
theorem mBlw_is {w : mS} {a b : Int32} : ∀ i q, mBlw w a b i = some q → q < i ∧ w 4 q = a ∧ w 5 q < b ∧ ∀ q', q' < i → w 4 q' = a → w 5 q' < b → w 5 q' ≤ w 5 q := by
  intro i
  induction i with
  | zero => intro q h; cases h
  | succ i ih =>
    intro q h
    have hno := mBlw_no (w := w) (a := a) (b := b) i
    unfold mBlw at h
    split at h
    · rename_i h4
      split at h
      · rename_i h5
        obtain ⟨i1, i2, i3, i4⟩ := ih q h
        refine ⟨by omega, i2, i3, fun q' hq' h6 h7 => ?_⟩
        by_cases he : q' = i
        · subst he; grind
        · exact i4 q' (by omega) h6 h7
      · rename_i h5
        split at h
        · rename_i h0
          cases h
          refine ⟨by omega, h4, by grind, fun q' hq' h6 h7 => ?_⟩
          by_cases he : q' = i
          · subst he; grind
          · exact absurd h7 (hno h0 q' (by omega) h6)
        · rename_i p hp
          obtain ⟨i1, i2, i3, i4⟩ := ih p hp
          split at h
          · rename_i h8
            cases h
            refine ⟨by omega, i2, i3, fun q' hq' h6 h7 => ?_⟩
            by_cases he : q' = i
            · subst he; exact h8
            · exact i4 q' (by omega) h6 h7
          · rename_i h8
            cases h
            refine ⟨by omega, h4, by grind, fun q' hq' h6 h7 => ?_⟩
            by_cases he : q' = i
            · subst he; grind
            · have := i4 q' (by omega) h6 h7
              grind
    · rename_i h4
      obtain ⟨i1, i2, i3, i4⟩ := ih q h
      refine ⟨by omega, i2, i3, fun q' hq' h6 h7 => ?_⟩
      by_cases he : q' = i
      · subst he; exact absurd h6 h4
      · exact i4 q' (by omega) h6 h7
/-! both -/
theorem bR.of_slot (h : bR v π n σ w) {q : Nat} (hq : q < 40) {a : Int32} (ha : 0 ≤ a) (h4 : w 4 q = a) : ∃ p, p < n ∧ σ p = q := h.used hq (by grind)
theorem bR.fnd (h : bR v π n σ w) {F : Nat} (hF : F = 40) (a b : Int32) : mFnd w a b F = (fndO v π n a b).map σ := by
  cases hm : mFnd w a b F with
  | none =>
    cases hx : fndO v π n a b with
    | none => rfl
    | some p =>
      obtain ⟨h1, h2, h3⟩ := h.fnd_some.mp hx
      have h4 := mFnd_no F hm (σ p) (by have := h.slt p h1; omega)
      have h5 := h.lst p h1
      have h6 := h.num p h1
      have h7 := h.lrg p h1
      grind
  | some q =>
    obtain ⟨h1, h2, h3, h4⟩ := mFnd_is F q hm
    obtain ⟨p, hp, rfl⟩ := h.of_slot (by omega) (a := a) (by grind) h3
    have h5 : fndO v π n a b = some p := h.fnd_some.mpr ⟨hp, by rw [← h.lst p hp]; exact h3, by rw [← h.num p hp]; exact h4⟩
    rw [h5]; rfl
theorem bR.mono (h : bR v π n σ w) {p p' : Nat} (hp : p < n) (hp' : p' < n) (h1 : v 10 (π p) 0 = v 10 (π p') 0) : v 11 (π p) 0 ≤ v 11 (π p') 0 ↔ p ≤ p' := by
  constructor
  · intro h2
    apply Classical.byContradiction
    intro hc
    have := h.srt p' p (by omega) hp
    grind
  · intro h2
    rcases Nat.lt_or_eq_of_le h2 with h3 | h3
    · have := h.srt p p' h3 hp'
      grind
    · subst h3; grind
theorem bR.abv (h : bR v π n σ w) {F : Nat} (hF : F = 40) {a b : Int32} (ha : 0 ≤ a) (hb : b ≤ 9999) : mAbv w a b F = (abvO v π n a b).map σ := by
  cases hm : mAbv w a b F with
  | none =>
    cases hx : abvO v π n a b with
    | none => rfl
    | some p =>
      obtain ⟨h1, h2, h3, -⟩ := (h.abv_some hb).mp hx
      have h4 := mAbv_no F hm (σ p) (by have := h.slt p h1; omega) (by rw [h.lst p h1]; exact h2)
      rw [h.num p h1] at h4
      exact absurd h3 h4
  | some q =>
    obtain ⟨h1, h2, h3, h4⟩ := mAbv_is F q hm
    obtain ⟨p, hp, rfl⟩ := h.of_slot (by omega) ha h2
    have e1 := h.lst p hp
    have e2 := h.num p hp
    have h5 : abvO v π n a b = some p := by
      refine (h.abv_some hb).mpr ⟨hp, by rw [← e1]; exact h2, by rw [← e2]; exact h3, fun p' hp' h6 h7 => ?_⟩
      have h8 := h4 (σ p') (by have := h.slt p' hp'; omega) (by rw [h.lst p' hp']; exact h6) (by rw [h.num p' hp']; exact h7)
      rw [e2, h.num p' hp'] at h8
      exact (h.mono hp hp' (by rw [h6, ← e1, h2])).mp h8
    rw [h5]; rfl
theorem bR.blw (h : bR v π n σ w) {F : Nat} (hF : F = 40) {a b : Int32} (ha : 0 ≤ a) : mBlw w a b F = (blwO v π n a b).map σ := by
  cases hm : mBlw w a b F with
  | none =>
    cases hx : blwO v π n a b with
    | none => rfl
    | some p =>
      obtain ⟨h1, h2, h3, -⟩ := h.blw_some.mp hx
      have h4 := mBlw_no F hm (σ p) (by have := h.slt p h1; omega) (by rw [h.lst p h1]; exact h2)
      rw [h.num p h1] at h4
      exact absurd h3 h4
  | some q =>
    obtain ⟨h1, h2, h3, h4⟩ := mBlw_is F q hm
    obtain ⟨p, hp, rfl⟩ := h.of_slot (by omega) ha h2
    have e1 := h.lst p hp
    have e2 := h.num p hp
    have h5 : blwO v π n a b = some p := by
      refine h.blw_some.mpr ⟨hp, by rw [← e1]; exact h2, by rw [← e2]; exact h3, fun p' hp' h6 h7 => ?_⟩
      have h8 := h4 (σ p') (by have := h.slt p' hp'; omega) (by rw [h.lst p' hp']; exact h6) (by rw [h.num p' hp']; exact h7)
      rw [e2, h.num p' hp'] at h8
      exact (h.mono hp' hp (by rw [h6, ← e1, h2])).mp h8
    rw [h5]; rfl
theorem cv_m1 (x : Int32) : cv x = -1 ↔ x = -1 := by
  unfold cv
  grind
/-- the source: down the list from a place -/
theorem bR.srcL (h : bR v π n σ w) {F : Nat} (hF : F = 40) {a : Int32} {ch : Nat} (hch : ch < 64) : ∀ p, p < n → v 10 (π p) 0 = a → ∀ k, p < k → mSrcL w a ch F k (some (σ p)) = (sGo v π a ch (p + 1)).map σ := by
  intro p
  induction p using Nat.strongRecOn with
  | ind p ih =>
    intro hp ha k hk
    obtain ⟨k, rfl⟩ : ∃ k', k = k' + 1 := ⟨k - 1, by omega⟩
    unfold mSrcL sGo
    rw [if_pos ha, h.mov p hp ch hch]
    by_cases hz : v 17 (π p) ch = -1
    · rw [if_pos hz, if_pos ((cv_m1 _).mpr hz), h.num p hp, h.blw hF (by have := h.lrg p hp; grind)]
      cases hb : blwO v π n a (v 11 (π p) 0) with
      | none =>
        have : sGo v π a ch p = none := by
          cases p with
          | zero => rfl
          | succ p =>
            unfold sGo
            have h1 := fun z => h.blw_none hb (p := p) (by omega) z
            have h2 := h.srt p (p + 1) (by omega) hp
            rw [if_neg (by grind)]
        rw [this]
        exact mSrcL_n
      | some p' =>
        obtain ⟨h1, h2, h3, h4⟩ := h.blw_some.mp hb
        have h5 : p' < p := by
          apply Classical.byContradiction
          intro hc
          have := (h.mono hp h1 (by rw [ha, h2])).mpr (by omega)
          grind
        have h6 : p = p' + 1 := by
          apply Classical.byContradiction
          intro hc
          have e1 := h.srt p' (p - 1) (by omega) (by omega)
          have e2 := h.srt (p - 1) p (by omega) hp
          have := h4 (p - 1) (by omega)
          have := this (by grind) (by grind)
          omega
        subst h6
        exact ih p' (by omega) h1 h2 k (by omega)
    · rw [if_neg hz, if_neg (fun z => hz ((cv_m1 _).mp z))]
      rfl
theorem bR.srcX (h : bR v π n σ w) {F : Nat} (hF : F = 40) {a : Int32} {ch : Nat} (hch : ch < 64) {X : Option Nat} (hX : ∀ p, X = some p → p < n ∧ v 10 (π p) 0 = a) {k : Nat} (hk : 40 ≤ k) : mSrcL w a ch F k (X.map σ) = (srcO v π ch X).map σ := by
  cases X with
  | none => exact mSrcL_n
  | some p =>
    obtain ⟨h1, h2⟩ := hX p rfl
    have := h.n40
    show mSrcL w a ch F k (some (σ p)) = (sGo v π (v 10 (π p) 0) ch (p + 1)).map σ
    rw [h2]
    exact h.srcL hF hch p h1 h2 k (by omega)
theorem mK_big {x : Int32} (h : 0 ≤ x) : 40 ≤ mK x := by
  rw [Int32.le_iff_toInt_le] at h
  have h3 : (0 : Int32).toInt = 0 := by decide
  unfold mK
  omega
/-- the source and what is tracked at the cue of a place -/
theorem bR.src (h : bR v π n σ w) {F : Nat} (hF : F = 40) {p : Nat} (hp : p < n) {ch : Nat} (hch : ch < 64) {a b : Int32} (ha : v 10 (π p) 0 = a) (hb : v 11 (π p) 0 = b) : mSrc w a b ch F = (srcO v π ch (some p)).map σ := by
  unfold mSrc
  have hl := h.lrg p hp
  have hn := h.nrg p hp
  have h1 : blwO v π n a (b + 1) = some p := h.blw_some.mpr ⟨hp, ha, by grind, fun p' hp' h2 h3 => (h.mono hp' hp (by rw [h2, ha])).mp (by grind)⟩
  rw [h.blw hF (by grind), h1]
  exact h.srcX hF hch (X := some p) (fun q hq => by cases hq; exact ⟨hp, ha⟩) (mK_big (by grind))
/-- the source and what is tracked below the cue of a place -/
theorem bR.srcB (h : bR v π n σ w) {F : Nat} (hF : F = 40) {p : Nat} (hp : p < n) {ch : Nat} (hch : ch < 64) {a b : Int32} (ha : v 10 (π p) 0 = a) (hb : v 11 (π p) 0 = b) : mSrc w a (b - 1) ch F = (srcO v π ch (blwO v π n a b)).map σ := by
  unfold mSrc
  have hl := h.lrg p hp
  have hn := h.nrg p hp
  rw [show b - 1 + 1 = b by grind, h.blw hF (by grind)]
  refine h.srcX hF hch (fun q hq => ?_) (mK_big (by grind))
  have := h.blw_some.mp hq
  exact ⟨this.1, this.2.1⟩
theorem bR.trkX (h : bR v π n σ w) {F : Nat} {ch : Nat} (hch : ch < 64) {a b : Int32} {X : Option Nat} (hX : ∀ p, X = some p → p < n) (ho : mSrc w a b ch F = (srcO v π ch X).map σ) : mTrk w a b ch F = cv (trk v π ch X) := by
  unfold mTrk trk
  rw [ho]
  have hl := srcO_lt (v := v) (π := π) (ch := ch) hX
  cases hs : srcO v π ch X with
  | none => rfl
  | some p => exact h.mov p (hl p hs) ch hch
theorem bR.tk0 (h : bR v π n σ w) {F : Nat} (hF : F = 40) {p : Nat} (hp : p < n) {ch : Nat} (hch : ch < 64) {a b : Int32} (ha : v 10 (π p) 0 = a) (hb : v 11 (π p) 0 = b) : mTrk w a b ch F = cv (trk v π ch (some p)) :=
  h.trkX hch (fun q hq => by cases hq; exact hp) (h.src hF hp hch ha hb)
theorem bR.trkB (h : bR v π n σ w) {F : Nat} (hF : F = 40) {p : Nat} (hp : p < n) {ch : Nat} (hch : ch < 64) {a b : Int32} (ha : v 10 (π p) 0 = a) (hb : v 11 (π p) 0 = b) : mTrk w a (b - 1) ch F = cv (trk v π ch (blwO v π n a b)) :=
  h.trkX hch blwO_lt (h.srcB hF hp hch ha hb)
theorem bR.trk_rg (h : bR v π n σ w) {ch : Nat} (hch : ch < 64) {X : Option Nat} (hX : ∀ p, X = some p → p < n) : -1 ≤ trk v π ch X ∧ trk v π ch X ≤ 272 := by
  unfold trk
  have hl := srcO_lt (v := v) (π := π) (ch := ch) hX
  split
  · decide
  · rename_i p hs
    exact h.mrg p (hl p hs) ch hch
end BR
